/-! ===== L2: Vault.writePiece (class) ===== -/
def idX (idm : Nat → Nat) (p v : Nat) : Nat → Nat := fun q => if q = p then v else idm q
theorem idX_new (idm : Nat → Nat) (p v : Nat) : idX idm p v p = v := by unfold idX; rw [if_pos rfl]
theorem idX_old (idm : Nat → Nat) {p v q : Nat} (h : q < p) : idX idm p v q = idm q := by unfold idX; rw [if_neg (by omega)]
theorem VaC.wr {h h' : AH} {idm : Nat → Nat} {K : KT} {cf : List (List Int)} {PF : List Int} (ok : KOk K) (V : VaC h idm K cf PF) (room : Int) (f : Nat) (c : List Int) (hc : cf[f]? = some c) (hPF : PF.length < 16384) (k45 : hR h' 45 = hR h 45) (k46 : hR h' 46 = hR h 46) (h43 : hR h' 43 = mI (PF ++ [(f : Int)])) {PS : List Int} (v8 : PS.length = PF.length) (v9 : ∀ p, p < kP K → PS.getD (idm p) 0 = if p ∈ flat K then ((flat K).idxOf p : Int) else -1) (h44 : hR h' 44 = mI (PS ++ [((flat K).length : Int)])) : VaC h' (idX idm (kP K) PF.length) (wrP K room c) cf (PF ++ [(f : Int)]) := by
  obtain ⟨v1, v2, v3, v4, v5, v6, -⟩ := V
  obtain ⟨hf, -⟩ := List.getElem?_eq_some_iff.mp hc
  have ef : flat (wrP K room c) = flat K ++ [kP K] := by
    show flt (wrX (addP K c) room (kD K) (kX K) (kP K)) = _
    rw [wrX_flt]; rfl
  have hn : kP K ∉ flat K := fun z => absurd (ok.2.2.1 _ z) (Nat.lt_irrefl _)
  have cases' : ∀ p, p < kP (wrP K room c) → p < kP K ∨ p = kP K := fun p hp => by
    have : p < kP K + 1 := hp
    omega
  have oldF : ∀ i, i < PF.length → (PF ++ [(f : Int)]).getD i 0 = PF.getD i 0 := fun i hi => by rw [List.getD_eq_getElem?_getD, List.getElem?_append_left hi, ← List.getD_eq_getElem?_getD]
  refine ⟨?_, by rw [k46]; exact v2, h43, by rw [List.length_append, List.length_singleton]; omega, fun p hp => ?_, fun p q hp hq e => ?_, PS ++ [((flat K).length : Int)], h44, by rw [List.length_append, List.length_append, v8]; rfl, fun p hp => ?_⟩
  · rw [k45, v1]
    show mI _ = mI ((kU K).map fun p => ((idX idm (kP K) PF.length p : Nat) : Int))
    congr 1
    refine List.map_congr_left (fun p hp => ?_)
    rw [idX_old idm (ok.2.2.2.2.2.2.1 p hp)]
  · rcases cases' p hp with z | z
    · obtain ⟨w1, g, w2, w3, w4⟩ := v5 p z
      rw [idX_old idm z]
      refine ⟨by rw [List.length_append]; omega, g, w2, by rw [oldF _ w1]; exact w3, ?_⟩
      show _ = some (if p = kP K then c else kC K p)
      rw [if_neg (by omega)]; exact w4
    · subst z
      rw [idX_new]
      refine ⟨by rw [List.length_append, List.length_singleton]; omega, f, hf, ?_, ?_⟩
      · rw [List.getD_eq_getElem?_getD, List.getElem?_append_right (Nat.le_refl _), Nat.sub_self]; rfl
      · show _ = some (if kP K = kP K then c else kC K (kP K))
        rw [if_pos rfl]; exact hc
  · rcases cases' p hp with z | z
    · rcases cases' q hq with y | y
      · rw [idX_old idm z, idX_old idm y] at e
        exact v6 p q z y e
      · rw [idX_old idm z, y, idX_new] at e
        have := (v5 p z).1
        omega
    · rcases cases' q hq with y | y
      · rw [idX_old idm y, z, idX_new] at e
        have := (v5 q y).1
        omega
      · rw [z, y]
  · rw [ef]
    rcases cases' p hp with z | z
    · have hi := (v5 p z).1
      rw [idX_old idm z, List.getD_eq_getElem?_getD, List.getElem?_append_left (by omega), ← List.getD_eq_getElem?_getD, v9 p z]
      by_cases m : p ∈ flat K
      · rw [if_pos m, if_pos (List.mem_append_left _ m), List.idxOf_append, if_pos m]
      · rw [if_neg m, if_neg (fun w => (List.mem_append.mp w).elim m (fun w => by have := List.mem_singleton.mp w; omega))]
    · subst z
      rw [idX_new, if_pos (List.mem_append_right _ (List.mem_singleton.mpr rfl)), ← v8, List.getD_eq_getElem?_getD, List.getElem?_append_right (Nat.le_refl _), Nat.sub_self, List.idxOf_append, if_neg hn]
      simp
theorem c_writePiece {h : AH} {r : Nat} {nu : List Int} {ts : Nat → List (Int × Int)} {idm : Nat → Nat} {K : KT} {cf : List (List Int)} {PF : List Int} (X : SvX h r nu ts idm K cf PF) (f : Nat) (c : List Int) (hc : cf[f]? = some c) (hok : okC c) (hkP : kP K < 10240) (hl : (flat K).length < 300) (hPF : PF.length < 16384) :
    ∃ h', mX10_writePiece [.ref 11, .int (iI (f : Int))] h = some (some (.int (iI (PF.length : Int))), h') ∧ FrR [43, 44, 50, 51, 52, 53, 54, 55, 56] h h' ∧ SvX h' r nu ts (idX idm (kP K) PF.length) (wrP K (nu.getD 0 0) c) cf (PF ++ [(f : Int)]) := by
  have X' := X
  obtain ⟨x1, x2, x3, x4, x5, ok, ⟨B, d10, d11⟩, V, M⟩ := X
  have V' := V
  obtain ⟨v1, v2, v3, v4, v5, v6, PS, v7, v8, v9⟩ := V
  have g1 := x1.sR 43 (mI (PF ++ [(f : Int)]))
  have s43 := ro_size (gT43 x1) v3
  have a43 := ro_add (v := (f : Int)) (gT43 x1) v3 hPF
  have s50 := ro_size (h := sR h 43 (mI (PF ++ [(f : Int)]))) (q := 50) (gT50 g1) (by rw [hR_sRu, u1_ne (by decide)]; exact B.1)
  rw [List.length_map] at s50
  have efl : (flt (kX K)).length = (flat K).length := rfl
  rw [efl] at s50
  have a44 := ro_add (h := sR h 43 (mI (PF ++ [(f : Int)]))) (q := 44) (v := ((flat K).length : Int)) (gT44 g1) (by rw [hR_sRu, u1_ne (by decide)]; exact v7) (by omega)
  obtain ⟨h2, eh2⟩ : ∃ h2, h2 = sR (sR h 43 (mI (PF ++ [(f : Int)]))) 44 (mI (PS ++ [((flat K).length : Int)])) := ⟨_, rfl⟩
  rw [← eh2] at a44
  have f2 : FrR [43, 44] h h2 := by rw [eh2]; exact ((FrR.rf _ h).put 43 (by simp) _).put 44 (by simp) _
  have g2 := f2.gr x1
  have M2 : FmC h2 cf := by
    unfold FmC
    rw [f2.2.2.2.2.2 28 (by decide), f2.2.2.2.2.2 29 (by decide), f2.2.2.2.2.2 30 (by decide), f2.2.2.2.2.2 31 (by decide)]
    exact M
  obtain ⟨-, r30, -, -, -⟩ := M2.rows g2 hc
  have C2 : RuC h2 r nu ts := x4.frr f2 (by rcases x2 with rfl | rfl <;> decide)
  have gr2 : RuG h2 r := x2.elim (fun e => e ▸ RuG.of12 g2) (fun e => e ▸ RuG.of83 g2)
  have nb : mX6_number [.ref r, .int (iI 0)] h2 = some (some (.int (iI (nu.getD 0 0))), h2) := c_number gr2 x5 C2.1 0 (by omega)
  have n0 := x5.at 0
  have hcl := hok.2.1
  have mem : ∀ q ∈ flat K, q < kP K := ok.2.2.1
  have eS : ∀ q, q < kP K → kS (addP K c) q = kS K q := fun q hq => by
    show (if q = kP K then 0 else kS K q) = _
    rw [if_neg (by omega)]
  have eC : ∀ q, q < kP K → pLen (addP K c) q = pLen K q := fun q hq => by
    show ((if q = kP K then c else kC K q).length : Int) = _
    rw [if_neg (by omega)]; rfl
  have ep : pLen (addP K c) (kP K) = (c.length : Int) := by
    show ((if kP K = kP K then c else kC K (kP K)).length : Int) = _
    rw [if_pos rfl]
  have es : kS (addP K c) (kP K) = 0 := by
    show (if kP K = kP K then 0 else kS K (kP K)) = _
    rw [if_pos rfl]
  have k2 : ∀ q, q ≠ 43 → q ≠ 44 → hR h2 q = hR h q := fun q y1 y2 => f2.2.2.2.2.2 q (by simp; omega)
  have B2 : BxC h2 49 (idX idm (kP K) PF.length) (addP K c) (kX K) := by
    obtain ⟨b1, b2, b3, b4, b5, b6, b7⟩ := B
    refine ⟨?_, ?_, by rw [k2 _ (by omega) (by omega)]; exact b3, by rw [k2 _ (by omega) (by omega)]; exact b4, ?_, by rw [k2 _ (by omega) (by omega)]; exact b6, by rw [k2 _ (by omega) (by omega)]; exact b7⟩
    · rw [k2 _ (by omega) (by omega), b1]
      congr 1
      refine List.map_congr_left (fun q hq => ?_)
      rw [idX_old idm (mem q hq)]
    · rw [k2 _ (by omega) (by omega), b2]
      congr 1
      refine List.map_congr_left (fun q hq => ?_)
      rw [eS q (mem q hq)]
    · rw [k2 _ (by omega) (by omega), b5]
      congr 1
      refine List.map_congr_left (fun b hb => ?_)
      exact (byt_addP ok c (fun p hp => mem p (List.mem_flatMap.mpr ⟨b, hb, hp⟩))).symm
  have hxl := kX_len ok
  have d10' : hI h2 49 10 = iI (kD K) := by rw [f2.2.2.2.1]; exact d10
  obtain ⟨h3, w1, w2, w3⟩ := c_write (StG.of49 g2) B2 (by omega) (by rw [efl]; omega) (fun q hq => by
    rw [eC q (mem q hq)]
    have := ok.2.2.2.2.2.2.2.2.2.1 q (mem q hq)
    unfold pLen
    omega) (kP K) (by rw [ep]; omega) (nu.getD 0 0) (kD K) n0 d10'
  rw [idX_new, ep, es] at w1
  have f3 : FrR [43, 44, 50, 51, 52, 53, 54, 55, 56] h h3 := (f2.mono (by simp)).tr (w2.mono (by decide))
  have k3 : ∀ q, q ∉ bxR 49 → hR h3 q = hR h2 q := w2.2.2.2.2.2
  have x3' : hP h2 11 0 = some r := by rw [f2.2.2.1]; exact x3
  have tr := gr2.1
  refine ⟨h3, ?_, f3, f3.gr x1, x2, by rw [f3.2.2.1]; exact x3, C2.frr w2 (by rcases x2 with rfl | rfl <;> decide), x5, ok.wP hok hkP hl _, ⟨w3, by rw [f3.2.2.2.1]; exact d10, by rw [f3.2.2.2.1]; exact d11⟩, V'.wr ok _ f c hc hPF (f3.2.2.2.2.2 45 (by decide)) (f3.2.2.2.2.2 46 (by decide)) ?_ v8 v9 ?_, ?_⟩
  · simp -implicitDefEqProofs (disch := omega) only [bind_ite, ev_itea, ev_seq, ev_seq0, ev_seq1, ev_seq2, ev_seqr, ev_if, ev_ift, ev_iff, ev_ifd, ev_ife, ev_ifet, ev_ifef, ev_ifed, ev_skip, ev_cont, ev_brk, ev_retV, ev_retI, ev_retIv, ev_retL, ev_retLv, ev_retR, ev_retRv, ev_for, ev_for0, ev_for2, ev_for1, ev_forr, ev_sc, ev_scv, ev_ex, ev_exv, ev_lsI, ev_lsIv, ev_lsL, ev_lsLv, ev_lsR, ev_lsRv, ev_ciI, ev_clL, ev_lvI0, ev_lvL0, ev_lvR0, ev_inc0, ev_s1_0, ev_s2_0, ev_lvI1, ev_lvL1, ev_lvR1, ev_inc1, ev_s1_1i, ev_s2_1i, ev_s1_1r, ev_s2_1r, ev_s1_1u, ev_s2_1u, ev_s1_1s, ev_s2_1s, ev_lvI2, ev_lvL2, ev_lvR2, ev_inc2, ev_s1_2i, ev_s2_2i, ev_s1_2r, ev_s2_2r, ev_s1_2u, ev_s2_2u, ev_s1_2s, ev_s2_2s, ev_lvI3, ev_lvL3, ev_lvR3, ev_inc3, ev_s1_3i, ev_s2_3i, ev_s1_3r, ev_s2_3r, ev_s1_3u, ev_s2_3u, ev_s1_3s, ev_s2_3s, ev_lvI4, ev_lvL4, ev_lvR4, ev_inc4, ev_s1_4i, ev_s2_4i, ev_s1_4r, ev_s2_4r, ev_s1_4u, ev_s2_4u, ev_s1_4s, ev_s2_4s, ev_lvI5, ev_lvL5, ev_lvR5, ev_inc5, ev_s1_5i, ev_s2_5i, ev_s1_5r, ev_s2_5r, ev_s1_5u, ev_s2_5u, ev_s1_5s, ev_s2_5s, ev_lvI6, ev_lvL6, ev_lvR6, ev_inc6, ev_s1_6i, ev_s2_6i, ev_s1_6r, ev_s2_6r, ev_s1_6u, ev_s2_6u, ev_s1_6s, ev_s2_6s, ev_lvI7, ev_lvL7, ev_lvR7, ev_inc7, ev_s1_7i, ev_s2_7i, ev_s1_7r, ev_s2_7r, ev_s1_7u, ev_s2_7u, ev_s1_7s, ev_s2_7s, ev_lvI8, ev_lvL8, ev_lvR8, ev_inc8, ev_s1_8i, ev_s2_8i, ev_s1_8r, ev_s2_8r, ev_s1_8u, ev_s2_8u, ev_s1_8s, ev_s2_8s, ev_lvI9, ev_lvL9, ev_lvR9, ev_inc9, ev_s1_9i, ev_s2_9i, ev_s1_9r, ev_s2_9r, ev_s1_9u, ev_s2_9u, ev_s1_9s, ev_s2_9s, ev_lvI10, ev_lvL10, ev_lvR10, ev_inc10, ev_s1_10i, ev_s2_10i, ev_s1_10r, ev_s2_10r, ev_s1_10u, ev_s2_10u, ev_s1_10s, ev_s2_10s, ev_lvI11, ev_lvL11, ev_lvR11, ev_inc11, ev_s1_11i, ev_s2_11i, ev_s1_11r, ev_s2_11r, ev_s1_11u, ev_s2_11u, ev_s1_11s, ev_s2_11s, ev_lvI12, ev_lvL12, ev_lvR12, ev_inc12, ev_s1_12i, ev_s2_12i, ev_s1_12r, ev_s2_12r, ev_s1_12u, ev_s2_12u, ev_s1_12s, ev_s2_12s, ev_lvI13, ev_lvL13, ev_lvR13, ev_inc13, ev_s1_13i, ev_s2_13i, ev_s1_13r, ev_s2_13r, ev_s1_13u, ev_s2_13u, ev_s1_13s, ev_s2_13s, ev_cut1_0, ev_cut1_1, ev_cut2_0, ev_cut2_1, ev_cut2_2, ev_cut3_0, ev_cut3_1, ev_cut3_2, ev_cut3_3, ev_cut4_0, ev_cut4_1, ev_cut4_2, ev_cut4_3, ev_cut4_4, ev_cut5_0, ev_cut5_1, ev_cut5_2, ev_cut5_3, ev_cut5_4, ev_cut5_5, ev_cut6_0, ev_cut6_1, ev_cut6_2, ev_cut6_3, ev_cut6_4, ev_cut6_5, ev_cut6_6, ev_cut7_0, ev_cut7_1, ev_cut7_2, ev_cut7_3, ev_cut7_4, ev_cut7_5, ev_cut7_6, ev_cut7_7, ev_cut8_0, ev_cut8_1, ev_cut8_2, ev_cut8_3, ev_cut8_4, ev_cut8_5, ev_cut8_6, ev_cut8_7, ev_cut8_8, ev_cut9_0, ev_cut9_1, ev_cut9_2, ev_cut9_3, ev_cut9_4, ev_cut9_5, ev_cut9_6, ev_cut9_7, ev_cut9_8, ev_cut9_9, ev_cut10_0, ev_cut10_1, ev_cut10_2, ev_cut10_3, ev_cut10_4, ev_cut10_5, ev_cut10_6, ev_cut10_7, ev_cut10_8, ev_cut10_9, ev_cut10_10, ev_cut11_0, ev_cut11_1, ev_cut11_2, ev_cut11_3, ev_cut11_4, ev_cut11_5, ev_cut11_6, ev_cut11_7, ev_cut11_8, ev_cut11_9, ev_cut11_10, ev_cut11_11, ev_cut12_0, ev_cut12_1, ev_cut12_2, ev_cut12_3, ev_cut12_4, ev_cut12_5, ev_cut12_6, ev_cut12_7, ev_cut12_8, ev_cut12_9, ev_cut12_10, ev_cut12_11, ev_cut12_12, ev_cut13_0, ev_cut13_1, ev_cut13_2, ev_cut13_3, ev_cut13_4, ev_cut13_5, ev_cut13_6, ev_cut13_7, ev_cut13_8, ev_cut13_9, ev_cut13_10, ev_cut13_11, ev_cut13_12, ev_cut13_13, ev_bin, ev_addI, ev_addIv, ev_subI, ev_subIv, ev_mulI, ev_mulIv, ev_andI, ev_andIv, ev_orI, ev_orIv, ev_xorI, ev_xorIv, ev_shlI, ev_shlIv, ev_shrI, ev_shrIv, ev_ushrI, ev_ushrIv, ev_addL, ev_addLv, ev_subL, ev_subLv, ev_mulL, ev_mulLv, ev_andL, ev_andLv, ev_orL, ev_orLv, ev_shlL, ev_shlLv, ev_divI, ev_divIv, ev_remI, ev_remIv, ev_divL, ev_divLv, ev_remL, ev_remLv, ev_eqI, ev_eqIv, ev_eqL, ev_eqLv, ev_eq0, ev_eq0v, ev_neI, ev_neIv, ev_neL, ev_neLv, ev_ne0, ev_ne0v, ev_ltI, ev_ltIv, ev_ltL, ev_ltLv, ev_lt0, ev_lt0v, ev_geI, ev_geIv, ev_geL, ev_geLv, ev_ge0, ev_ge0v, ev_gtI, ev_gtIv, ev_gtL, ev_gtLv, ev_gt0, ev_gt0v, ev_leI, ev_leIv, ev_leL, ev_leLv, ev_le0, ev_le0v, ev_i2L, ev_i2Lv, ev_l2I, ev_l2Iv, ev_nul, ev_nuls, ev_nuln, ev_andX, ev_andXt, ev_andXf, ev_andXd, ev_orX, ev_orXt, ev_orXf, ev_orXd, ev_notX, ev_notXv, ev_notd, ev_iteX, ev_iteXt, ev_iteXf, ev_iteXd, ev_getI, ev_getIv, ev_getL, ev_getLv, ev_getR, ev_getRv, ev_rsz, ev_rszv, ev_aldI, ev_aldIq, ev_aldIv, ev_aldL, ev_aldLq, ev_aldLv, ev_aldR, ev_aldRq, ev_aldRv, ev_aln, ev_putI, ev_putIq, ev_putIv, ev_putZ, ev_putZq, ev_putZv, ev_putL, ev_putLq, ev_putLv, ev_putR, ev_putRq, ev_putRv, ev_astI, ev_astIq, ev_astIi, ev_astIv, ev_astZ, ev_astZq, ev_astZi, ev_astZv, ev_astL, ev_astLq, ev_astLi, ev_astLv, ev_astR, ev_upd, ev_updq, ev_updv, ev_ina, ev_inaq, ev_inav, ev_rzs, ev_rzsq, ev_rzsv, ev_sw, ev_swx, ev_swr, ev_agN, ev_agC, ev_agi, ev_agl, ev_agr, ev_ag2, ev_calX, ev_calv, ev_decI, ev_decL, ev_decR, ev_calS, ev_clsv, ev_clsd, ev_ck0, ev_ck1, ev_cs1, ev_ck2, ev_cs2, ev_ck3, ev_cs3, ev_ck4, ev_cs4, ev_ck5, ev_cs5, ev_finV, ev_finI, ev_finL, ev_finR, ev_fin1, ev_fin0, ev_finZ, ev_newO, ev_newv, ev_newR, ev_newA, ev_newAv, ev_oi, ev_oiv, Option.bind_some, Option.bind_none, Option.bind_fun_some, reduceCtorEq, reduceIte, List.take_zero, Sum.inl.injEq, Sum.inr.injEq, Option.some.injEq, Prod.mk.injEq, Nat.reduceEqDiff, Nat.reduceAdd, Nat.reduceSub, Nat.reduceMul, Nat.reduceLT, Nat.reduceLeDiff, decide_true, decide_false, decide_eq_true_eq, decide_eq_false_iff_not, Bool.and_true, Bool.true_and, Bool.and_false, Bool.false_and, Bool.false_or, Bool.or_false, Bool.true_or, Bool.or_true, Bool.and_self, Bool.or_self, true_or, or_true, and_true, true_and, false_and, and_false, false_or, or_false, not_true_eq_false, not_false_eq_true, Bool.not_true, Bool.not_false, Bool.false_eq_true, and_self, ite_true, ite_false, eq_self, hT_sR, hP_sR, hI_sR, hL_sR, hN_sR, hR_sRu, hT_sI, hP_sI, hR_sI, hL_sI, hN_sI, hI_sI, hT_sL, hP_sL, hR_sL, hI_sL, hN_sL, hL_sL, hT_sP, hR_sP, hI_sP, hL_sP, hN_sP, hP_sP, u1_app, u2_app, hT_sA, hP_sA, hR_sA, hL_sA, hN_sA, hI_sA, sI_sA, sI_sI, sA_sA, sA_sI, hT_sLA, hP_sLA, hR_sLA, hI_sLA, hN_sLA, hL_sLA, sL_sLA, eX10_writePiece, bX10_writePiece, gT0 x1, gT1 x1, gT2 x1, gT3 x1, gT4 x1, gT5 x1, gT6 x1, gT7 x1, gT8 x1, gT9 x1, gT10 x1, gT11 x1, gT12 x1, gT13 x1, gT14 x1, gT15 x1, gT16 x1, gT17 x1, gT18 x1, gT19 x1, gT20 x1, gT21 x1, gT22 x1, gT23 x1, gT24 x1, gT25 x1, gT26 x1, gT27 x1, gT28 x1, gT29 x1, gT30 x1, gT31 x1, gT32 x1, gT33 x1, gT34 x1, gT35 x1, gT36 x1, gT37 x1, gT38 x1, gT39 x1, gT40 x1, gT41 x1, gT42 x1, gT43 x1, gT44 x1, gT45 x1, gT46 x1, gT47 x1, gT48 x1, gT49 x1, gT50 x1, gT51 x1, gT52 x1, gT53 x1, gT54 x1, gT55 x1, gT56 x1, gT57 x1, gT58 x1, gT59 x1, gT60 x1, gT61 x1, gT62 x1, gT63 x1, gT64 x1, gT65 x1, gT66 x1, gT67 x1, gT68 x1, gT69 x1, gT70 x1, gT71 x1, gT72 x1, gT73 x1, gT74 x1, gT75 x1, gT76 x1, gT77 x1, gT78 x1, gT79 x1, gT80 x1, gT81 x1, gT82 x1, gT83 x1, gT84 x1, gT85 x1, gT86 x1, gT87 x1, gT88 x1, gT89 x1, gT90 x1, gT91 x1, gT92 x1, gT93 x1, gT94 x1, gP0_0 x1, gP0_1 x1, gP0_2 x1, gP0_3 x1, gP0_4 x1, gP0_5 x1, gP3_0 x1, gP3_1 x1, gP3_2 x1, gP3_3 x1, gP8_0 x1, gP8_1 x1, gP11_1 x1, gP11_2 x1, gP11_3 x1, gP11_4 x1, gP11_5 x1, gP11_6 x1, gP11_7 x1, gP11_8 x1, gP11_9 x1, gP11_10 x1, gP11_11 x1, gP11_12 x1, gP11_16 x1, gP11_17 x1, gP11_18 x1, gP12_0 x1, gP12_1 x1, gP12_2 x1, gP12_3 x1, gP12_4 x1, gP14_0 x1, gP14_1 x1, gP17_0 x1, gP17_1 x1, gP20_0 x1, gP20_1 x1, gP24_0 x1, gP24_1 x1, gP27_0 x1, gP27_1 x1, gP27_2 x1, gP27_3 x1, gP27_4 x1, gP27_5 x1, gP27_6 x1, gP27_7 x1, gP36_0 x1, gP36_1 x1, gP36_2 x1, gP36_3 x1, gP36_4 x1, gP36_5 x1, gP49_0 x1, gP49_1 x1, gP49_2 x1, gP49_3 x1, gP49_4 x1, gP49_5 x1, gP49_6 x1, gP49_7 x1, gP49_8 x1, gP49_9 x1, gP60_0 x1, gP60_1 x1, gP60_2 x1, gP60_3 x1, gP60_4 x1, gP60_5 x1, gP60_6 x1, gP60_7 x1, gP60_8 x1, gP60_9 x1, gP75_0 x1, gP75_1 x1, gP75_2 x1, gP79_0 x1, gP79_1 x1, gP79_2 x1, gP83_0 x1, gP83_1 x1, gP83_2 x1, gP83_3 x1, gP83_4 x1, gP85_0 x1, gP85_1 x1, gP88_0 x1, gP88_1 x1, gP91_0 x1, gP91_1 x1, gT0 g1, gT1 g1, gT2 g1, gT3 g1, gT4 g1, gT5 g1, gT6 g1, gT7 g1, gT8 g1, gT9 g1, gT10 g1, gT11 g1, gT12 g1, gT13 g1, gT14 g1, gT15 g1, gT16 g1, gT17 g1, gT18 g1, gT19 g1, gT20 g1, gT21 g1, gT22 g1, gT23 g1, gT24 g1, gT25 g1, gT26 g1, gT27 g1, gT28 g1, gT29 g1, gT30 g1, gT31 g1, gT32 g1, gT33 g1, gT34 g1, gT35 g1, gT36 g1, gT37 g1, gT38 g1, gT39 g1, gT40 g1, gT41 g1, gT42 g1, gT43 g1, gT44 g1, gT45 g1, gT46 g1, gT47 g1, gT48 g1, gT49 g1, gT50 g1, gT51 g1, gT52 g1, gT53 g1, gT54 g1, gT55 g1, gT56 g1, gT57 g1, gT58 g1, gT59 g1, gT60 g1, gT61 g1, gT62 g1, gT63 g1, gT64 g1, gT65 g1, gT66 g1, gT67 g1, gT68 g1, gT69 g1, gT70 g1, gT71 g1, gT72 g1, gT73 g1, gT74 g1, gT75 g1, gT76 g1, gT77 g1, gT78 g1, gT79 g1, gT80 g1, gT81 g1, gT82 g1, gT83 g1, gT84 g1, gT85 g1, gT86 g1, gT87 g1, gT88 g1, gT89 g1, gT90 g1, gT91 g1, gT92 g1, gT93 g1, gT94 g1, gP0_0 g1, gP0_1 g1, gP0_2 g1, gP0_3 g1, gP0_4 g1, gP0_5 g1, gP3_0 g1, gP3_1 g1, gP3_2 g1, gP3_3 g1, gP8_0 g1, gP8_1 g1, gP11_1 g1, gP11_2 g1, gP11_3 g1, gP11_4 g1, gP11_5 g1, gP11_6 g1, gP11_7 g1, gP11_8 g1, gP11_9 g1, gP11_10 g1, gP11_11 g1, gP11_12 g1, gP11_16 g1, gP11_17 g1, gP11_18 g1, gP12_0 g1, gP12_1 g1, gP12_2 g1, gP12_3 g1, gP12_4 g1, gP14_0 g1, gP14_1 g1, gP17_0 g1, gP17_1 g1, gP20_0 g1, gP20_1 g1, gP24_0 g1, gP24_1 g1, gP27_0 g1, gP27_1 g1, gP27_2 g1, gP27_3 g1, gP27_4 g1, gP27_5 g1, gP27_6 g1, gP27_7 g1, gP36_0 g1, gP36_1 g1, gP36_2 g1, gP36_3 g1, gP36_4 g1, gP36_5 g1, gP49_0 g1, gP49_1 g1, gP49_2 g1, gP49_3 g1, gP49_4 g1, gP49_5 g1, gP49_6 g1, gP49_7 g1, gP49_8 g1, gP49_9 g1, gP60_0 g1, gP60_1 g1, gP60_2 g1, gP60_3 g1, gP60_4 g1, gP60_5 g1, gP60_6 g1, gP60_7 g1, gP60_8 g1, gP60_9 g1, gP75_0 g1, gP75_1 g1, gP75_2 g1, gP79_0 g1, gP79_1 g1, gP79_2 g1, gP83_0 g1, gP83_1 g1, gP83_2 g1, gP83_3 g1, gP83_4 g1, gP85_0 g1, gP85_1 g1, gP88_0 g1, gP88_1 g1, gP91_0 g1, gP91_1 g1, gT0 g2, gT1 g2, gT2 g2, gT3 g2, gT4 g2, gT5 g2, gT6 g2, gT7 g2, gT8 g2, gT9 g2, gT10 g2, gT11 g2, gT12 g2, gT13 g2, gT14 g2, gT15 g2, gT16 g2, gT17 g2, gT18 g2, gT19 g2, gT20 g2, gT21 g2, gT22 g2, gT23 g2, gT24 g2, gT25 g2, gT26 g2, gT27 g2, gT28 g2, gT29 g2, gT30 g2, gT31 g2, gT32 g2, gT33 g2, gT34 g2, gT35 g2, gT36 g2, gT37 g2, gT38 g2, gT39 g2, gT40 g2, gT41 g2, gT42 g2, gT43 g2, gT44 g2, gT45 g2, gT46 g2, gT47 g2, gT48 g2, gT49 g2, gT50 g2, gT51 g2, gT52 g2, gT53 g2, gT54 g2, gT55 g2, gT56 g2, gT57 g2, gT58 g2, gT59 g2, gT60 g2, gT61 g2, gT62 g2, gT63 g2, gT64 g2, gT65 g2, gT66 g2, gT67 g2, gT68 g2, gT69 g2, gT70 g2, gT71 g2, gT72 g2, gT73 g2, gT74 g2, gT75 g2, gT76 g2, gT77 g2, gT78 g2, gT79 g2, gT80 g2, gT81 g2, gT82 g2, gT83 g2, gT84 g2, gT85 g2, gT86 g2, gT87 g2, gT88 g2, gT89 g2, gT90 g2, gT91 g2, gT92 g2, gT93 g2, gT94 g2, gP0_0 g2, gP0_1 g2, gP0_2 g2, gP0_3 g2, gP0_4 g2, gP0_5 g2, gP3_0 g2, gP3_1 g2, gP3_2 g2, gP3_3 g2, gP8_0 g2, gP8_1 g2, gP11_1 g2, gP11_2 g2, gP11_3 g2, gP11_4 g2, gP11_5 g2, gP11_6 g2, gP11_7 g2, gP11_8 g2, gP11_9 g2, gP11_10 g2, gP11_11 g2, gP11_12 g2, gP11_16 g2, gP11_17 g2, gP11_18 g2, gP12_0 g2, gP12_1 g2, gP12_2 g2, gP12_3 g2, gP12_4 g2, gP14_0 g2, gP14_1 g2, gP17_0 g2, gP17_1 g2, gP20_0 g2, gP20_1 g2, gP24_0 g2, gP24_1 g2, gP27_0 g2, gP27_1 g2, gP27_2 g2, gP27_3 g2, gP27_4 g2, gP27_5 g2, gP27_6 g2, gP27_7 g2, gP36_0 g2, gP36_1 g2, gP36_2 g2, gP36_3 g2, gP36_4 g2, gP36_5 g2, gP49_0 g2, gP49_1 g2, gP49_2 g2, gP49_3 g2, gP49_4 g2, gP49_5 g2, gP49_6 g2, gP49_7 g2, gP49_8 g2, gP49_9 g2, gP60_0 g2, gP60_1 g2, gP60_2 g2, gP60_3 g2, gP60_4 g2, gP60_5 g2, gP60_6 g2, gP60_7 g2, gP60_8 g2, gP60_9 g2, gP75_0 g2, gP75_1 g2, gP75_2 g2, gP79_0 g2, gP79_1 g2, gP79_2 g2, gP83_0 g2, gP83_1 g2, gP83_2 g2, gP83_3 g2, gP83_4 g2, gP85_0 g2, gP85_1 g2, gP88_0 g2, gP88_1 g2, gP91_0 g2, gP91_1 g2, iI_lt2, iI_le2, iI_eq2, iI_lt0, iI_0lt, iI_le0, iI_0le, iI_eq0, iI_eq1, iI_nat2, iI_add, iI_sub, iI_mul, Int.toNat_natCast, if_pos, if_neg, s43, a43, s50, a44, r30, x3', tr, nb, w1]
  · rw [k3 43 (by decide), eh2, hR_sRu, u1_ne (by decide), hR_sRu, u1_eq]
  · rw [k3 44 (by decide), eh2, hR_sRu, u1_eq]
  · unfold FmC
    rw [k3 28 (by decide), k3 29 (by decide), k3 30 (by decide), k3 31 (by decide)]
    exact M2
