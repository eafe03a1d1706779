/-! ===== L2: the vault begins (by mkdx.py) ===== -/
theorem c_emptied {h : AH} {s : Nat} (G : StG h s) : ∃ h', mX9_emptyBoxes [.ref s] h = some (none, h') ∧ FrC (stR s) [s] h h' ∧ hI h' = hI h ∧ (∀ i, 1 ≤ i → i ≤ 7 → hR h' (s + i) = []) := by
  obtain ⟨t0, p0, p1, p2, p3, p4, p5, p6, p7, p8, p9, t1, t2, t3, t4, t5, t6, t7, t8, t9, t10⟩ := G
  obtain ⟨h1, e1⟩ : ∃ x, x = sR h (s + 1) [] := ⟨_, rfl⟩
  have tT1 : hT h1 = hT h := by rw [e1]; rfl
  have tP1 : hP h1 = hP h := by rw [e1]; rfl
  have c1 := ro_clear (h := h) (show hT h (s + 1) = (1, 512) by exact t1)
  rw [← e1] at c1
  have k1 := ck5 (h := h) t1
  obtain ⟨h2, e2⟩ : ∃ x, x = sR h1 (s + 2) [] := ⟨_, rfl⟩
  have tT2 : hT h2 = hT h := by rw [e2, e1]; rfl
  have tP2 : hP h2 = hP h := by rw [e2, e1]; rfl
  have c2 := ro_clear (h := h1) (show hT h1 (s + 2) = (1, 512) by rw [tT1]; exact t2)
  rw [← e2] at c2
  have k2 := ck5 (h := h) t2
  obtain ⟨h3, e3⟩ : ∃ x, x = sR h2 (s + 3) [] := ⟨_, rfl⟩
  have tT3 : hT h3 = hT h := by rw [e3, e2, e1]; rfl
  have tP3 : hP h3 = hP h := by rw [e3, e2, e1]; rfl
  have c3 := ro_clear (h := h2) (show hT h2 (s + 3) = (1, 512) by rw [tT2]; exact t3)
  rw [← e3] at c3
  have k3 := ck5 (h := h) t3
  obtain ⟨h4, e4⟩ : ∃ x, x = sR h3 (s + 4) [] := ⟨_, rfl⟩
  have tT4 : hT h4 = hT h := by rw [e4, e3, e2, e1]; rfl
  have tP4 : hP h4 = hP h := by rw [e4, e3, e2, e1]; rfl
  have c4 := ro_clear (h := h3) (show hT h3 (s + 4) = (1, 512) by rw [tT3]; exact t4)
  rw [← e4] at c4
  have k4 := ck5 (h := h) t4
  obtain ⟨h5, e5⟩ : ∃ x, x = sR h4 (s + 5) [] := ⟨_, rfl⟩
  have tT5 : hT h5 = hT h := by rw [e5, e4, e3, e2, e1]; rfl
  have tP5 : hP h5 = hP h := by rw [e5, e4, e3, e2, e1]; rfl
  have c5 := ro_clear (h := h4) (show hT h4 (s + 5) = (1, 512) by rw [tT4]; exact t5)
  rw [← e5] at c5
  have k5 := ck5 (h := h) t5
  obtain ⟨h6, e6⟩ : ∃ x, x = sR h5 (s + 6) [] := ⟨_, rfl⟩
  have tT6 : hT h6 = hT h := by rw [e6, e5, e4, e3, e2, e1]; rfl
  have tP6 : hP h6 = hP h := by rw [e6, e5, e4, e3, e2, e1]; rfl
  have c6 := ro_clear (h := h5) (show hT h5 (s + 6) = (1, 512) by rw [tT5]; exact t6)
  rw [← e6] at c6
  have k6 := ck5 (h := h) t6
  obtain ⟨h7, e7⟩ : ∃ x, x = sR h6 (s + 7) [] := ⟨_, rfl⟩
  have tT7 : hT h7 = hT h := by rw [e7, e6, e5, e4, e3, e2, e1]; rfl
  have tP7 : hP h7 = hP h := by rw [e7, e6, e5, e4, e3, e2, e1]; rfl
  have c7 := ro_clear (h := h6) (show hT h6 (s + 7) = (1, 512) by rw [tT6]; exact t7)
  rw [← e7] at c7
  have k7 := ck5 (h := h) t7
  have rd : ∀ i, 1 ≤ i → i ≤ 7 → hR h7 (s + i) = [] := fun i h1i hi7 => by
    rw [e7, e6, e5, e4, e3, e2, e1]
    simp only [hR_sRu, u1_app]
    repeat' split
    all_goals first
      | rfl
      | (exfalso; omega)
  refine ⟨h7, ?_, ?_, by rw [e7, e6, e5, e4, e3, e2, e1]; rfl, rd⟩
  · clear rd e1 e2 e3 e4 e5 e6 e7
    simp -implicitDefEqProofs (disch := omega) only [bind_ite, ev_itea, ev_seq, ev_seq0, ev_seq1, ev_seq2, ev_seqr, ev_if, ev_ift, ev_iff, ev_ifd, ev_ife, ev_ifet, ev_ifef, ev_ifed, ev_skip, ev_cont, ev_brk, ev_retV, ev_retI, ev_retIv, ev_retL, ev_retLv, ev_retR, ev_retRv, ev_for, ev_for0, ev_for2, ev_for1, ev_forr, ev_sc, ev_scv, ev_ex, ev_exv, ev_lsI, ev_lsIv, ev_lsL, ev_lsLv, ev_lsR, ev_lsRv, ev_ciI, ev_clL, ev_lvI0, ev_lvL0, ev_lvR0, ev_inc0, ev_s1_0, ev_s2_0, ev_lvI1, ev_lvL1, ev_lvR1, ev_inc1, ev_s1_1i, ev_s2_1i, ev_s1_1r, ev_s2_1r, ev_s1_1u, ev_s2_1u, ev_s1_1s, ev_s2_1s, ev_lvI2, ev_lvL2, ev_lvR2, ev_inc2, ev_s1_2i, ev_s2_2i, ev_s1_2r, ev_s2_2r, ev_s1_2u, ev_s2_2u, ev_s1_2s, ev_s2_2s, ev_lvI3, ev_lvL3, ev_lvR3, ev_inc3, ev_s1_3i, ev_s2_3i, ev_s1_3r, ev_s2_3r, ev_s1_3u, ev_s2_3u, ev_s1_3s, ev_s2_3s, ev_lvI4, ev_lvL4, ev_lvR4, ev_inc4, ev_s1_4i, ev_s2_4i, ev_s1_4r, ev_s2_4r, ev_s1_4u, ev_s2_4u, ev_s1_4s, ev_s2_4s, ev_lvI5, ev_lvL5, ev_lvR5, ev_inc5, ev_s1_5i, ev_s2_5i, ev_s1_5r, ev_s2_5r, ev_s1_5u, ev_s2_5u, ev_s1_5s, ev_s2_5s, ev_lvI6, ev_lvL6, ev_lvR6, ev_inc6, ev_s1_6i, ev_s2_6i, ev_s1_6r, ev_s2_6r, ev_s1_6u, ev_s2_6u, ev_s1_6s, ev_s2_6s, ev_lvI7, ev_lvL7, ev_lvR7, ev_inc7, ev_s1_7i, ev_s2_7i, ev_s1_7r, ev_s2_7r, ev_s1_7u, ev_s2_7u, ev_s1_7s, ev_s2_7s, ev_lvI8, ev_lvL8, ev_lvR8, ev_inc8, ev_s1_8i, ev_s2_8i, ev_s1_8r, ev_s2_8r, ev_s1_8u, ev_s2_8u, ev_s1_8s, ev_s2_8s, ev_lvI9, ev_lvL9, ev_lvR9, ev_inc9, ev_s1_9i, ev_s2_9i, ev_s1_9r, ev_s2_9r, ev_s1_9u, ev_s2_9u, ev_s1_9s, ev_s2_9s, ev_lvI10, ev_lvL10, ev_lvR10, ev_inc10, ev_s1_10i, ev_s2_10i, ev_s1_10r, ev_s2_10r, ev_s1_10u, ev_s2_10u, ev_s1_10s, ev_s2_10s, ev_lvI11, ev_lvL11, ev_lvR11, ev_inc11, ev_s1_11i, ev_s2_11i, ev_s1_11r, ev_s2_11r, ev_s1_11u, ev_s2_11u, ev_s1_11s, ev_s2_11s, ev_lvI12, ev_lvL12, ev_lvR12, ev_inc12, ev_s1_12i, ev_s2_12i, ev_s1_12r, ev_s2_12r, ev_s1_12u, ev_s2_12u, ev_s1_12s, ev_s2_12s, ev_lvI13, ev_lvL13, ev_lvR13, ev_inc13, ev_s1_13i, ev_s2_13i, ev_s1_13r, ev_s2_13r, ev_s1_13u, ev_s2_13u, ev_s1_13s, ev_s2_13s, ev_cut1_0, ev_cut1_1, ev_cut2_0, ev_cut2_1, ev_cut2_2, ev_cut3_0, ev_cut3_1, ev_cut3_2, ev_cut3_3, ev_cut4_0, ev_cut4_1, ev_cut4_2, ev_cut4_3, ev_cut4_4, ev_cut5_0, ev_cut5_1, ev_cut5_2, ev_cut5_3, ev_cut5_4, ev_cut5_5, ev_cut6_0, ev_cut6_1, ev_cut6_2, ev_cut6_3, ev_cut6_4, ev_cut6_5, ev_cut6_6, ev_cut7_0, ev_cut7_1, ev_cut7_2, ev_cut7_3, ev_cut7_4, ev_cut7_5, ev_cut7_6, ev_cut7_7, ev_cut8_0, ev_cut8_1, ev_cut8_2, ev_cut8_3, ev_cut8_4, ev_cut8_5, ev_cut8_6, ev_cut8_7, ev_cut8_8, ev_cut9_0, ev_cut9_1, ev_cut9_2, ev_cut9_3, ev_cut9_4, ev_cut9_5, ev_cut9_6, ev_cut9_7, ev_cut9_8, ev_cut9_9, ev_cut10_0, ev_cut10_1, ev_cut10_2, ev_cut10_3, ev_cut10_4, ev_cut10_5, ev_cut10_6, ev_cut10_7, ev_cut10_8, ev_cut10_9, ev_cut10_10, ev_cut11_0, ev_cut11_1, ev_cut11_2, ev_cut11_3, ev_cut11_4, ev_cut11_5, ev_cut11_6, ev_cut11_7, ev_cut11_8, ev_cut11_9, ev_cut11_10, ev_cut11_11, ev_cut12_0, ev_cut12_1, ev_cut12_2, ev_cut12_3, ev_cut12_4, ev_cut12_5, ev_cut12_6, ev_cut12_7, ev_cut12_8, ev_cut12_9, ev_cut12_10, ev_cut12_11, ev_cut12_12, ev_cut13_0, ev_cut13_1, ev_cut13_2, ev_cut13_3, ev_cut13_4, ev_cut13_5, ev_cut13_6, ev_cut13_7, ev_cut13_8, ev_cut13_9, ev_cut13_10, ev_cut13_11, ev_cut13_12, ev_cut13_13, ev_bin, ev_addI, ev_addIv, ev_subI, ev_subIv, ev_mulI, ev_mulIv, ev_andI, ev_andIv, ev_orI, ev_orIv, ev_xorI, ev_xorIv, ev_shlI, ev_shlIv, ev_shrI, ev_shrIv, ev_ushrI, ev_ushrIv, ev_addL, ev_addLv, ev_subL, ev_subLv, ev_mulL, ev_mulLv, ev_andL, ev_andLv, ev_orL, ev_orLv, ev_shlL, ev_shlLv, ev_divI, ev_divIv, ev_remI, ev_remIv, ev_divL, ev_divLv, ev_remL, ev_remLv, ev_eqI, ev_eqIv, ev_eqL, ev_eqLv, ev_eq0, ev_eq0v, ev_neI, ev_neIv, ev_neL, ev_neLv, ev_ne0, ev_ne0v, ev_ltI, ev_ltIv, ev_ltL, ev_ltLv, ev_lt0, ev_lt0v, ev_geI, ev_geIv, ev_geL, ev_geLv, ev_ge0, ev_ge0v, ev_gtI, ev_gtIv, ev_gtL, ev_gtLv, ev_gt0, ev_gt0v, ev_leI, ev_leIv, ev_leL, ev_leLv, ev_le0, ev_le0v, ev_i2L, ev_i2Lv, ev_l2I, ev_l2Iv, ev_nul, ev_nuls, ev_nuln, ev_andX, ev_andXt, ev_andXf, ev_andXd, ev_orX, ev_orXt, ev_orXf, ev_orXd, ev_notX, ev_notXv, ev_notd, ev_iteX, ev_iteXt, ev_iteXf, ev_iteXd, ev_getI, ev_getIv, ev_getL, ev_getLv, ev_getR, ev_getRv, ev_rsz, ev_rszv, ev_aldI, ev_aldIq, ev_aldIv, ev_aldL, ev_aldLq, ev_aldLv, ev_aldR, ev_aldRq, ev_aldRv, ev_aln, ev_putI, ev_putIq, ev_putIv, ev_putZ, ev_putZq, ev_putZv, ev_putL, ev_putLq, ev_putLv, ev_putR, ev_putRq, ev_putRv, ev_astI, ev_astIq, ev_astIi, ev_astIv, ev_astZ, ev_astZq, ev_astZi, ev_astZv, ev_astL, ev_astLq, ev_astLi, ev_astLv, ev_astR, ev_upd, ev_updq, ev_updv, ev_ina, ev_inaq, ev_inav, ev_rzs, ev_rzsq, ev_rzsv, ev_sw, ev_swx, ev_swr, ev_agN, ev_agC, ev_agi, ev_agl, ev_agr, ev_ag2, ev_calX, ev_calv, ev_decI, ev_decL, ev_decR, ev_calS, ev_clsv, ev_clsd, ev_ck0, ev_ck1, ev_cs1, ev_ck2, ev_cs2, ev_ck3, ev_cs3, ev_ck4, ev_cs4, ev_ck5, ev_cs5, ev_finV, ev_finI, ev_finL, ev_finR, ev_fin1, ev_fin0, ev_finZ, ev_newO, ev_newv, ev_newR, ev_newA, ev_newAv, ev_oi, ev_oiv, Option.bind_some, Option.bind_none, Option.bind_fun_some, reduceCtorEq, reduceIte, List.take_zero, Sum.inl.injEq, Sum.inr.injEq, Option.some.injEq, Prod.mk.injEq, Nat.reduceEqDiff, Nat.reduceAdd, Nat.reduceSub, Nat.reduceMul, Nat.reduceLT, Nat.reduceLeDiff, decide_true, decide_false, decide_eq_true_eq, decide_eq_false_iff_not, Bool.and_true, Bool.true_and, Bool.and_false, Bool.false_and, Bool.false_or, Bool.or_false, Bool.true_or, Bool.or_true, Bool.and_self, Bool.or_self, true_or, or_true, and_true, true_and, false_and, and_false, false_or, or_false, not_true_eq_false, not_false_eq_true, Bool.not_true, Bool.not_false, Bool.false_eq_true, and_self, ite_true, ite_false, eq_self, hT_sR, hP_sR, hI_sR, hL_sR, hN_sR, hR_sRu, hT_sI, hP_sI, hR_sI, hL_sI, hN_sI, hI_sI, hT_sL, hP_sL, hR_sL, hI_sL, hN_sL, hL_sL, hT_sP, hR_sP, hI_sP, hL_sP, hN_sP, hP_sP, u1_app, u2_app, hT_sA, hP_sA, hR_sA, hL_sA, hN_sA, hI_sA, sI_sA, sI_sI, sA_sA, sA_sI, hT_sLA, hP_sLA, hR_sLA, hI_sLA, hN_sLA, hL_sLA, sL_sLA, eX9_emptyBoxes, bX9_emptyBoxes, iI_lt2, iI_le2, iI_eq2, iI_lt0, iI_0lt, iI_le0, iI_0le, iI_eq0, iI_eq1, iI_nat2, iI_add, iI_sub, iI_mul, Int.toNat_natCast, if_pos, if_neg, c1, tT1, tP1, k1, c2, tT2, tP2, k2, c3, tT3, tP3, k3, c4, tT4, tP4, k4, c5, tT5, tP5, k5, c6, tT6, tP6, k6, c7, tT7, tP7, k7, t0, p0, p1, p2, p3, p4, p5, p6]
  · rw [e7, e6, e5, e4, e3, e2, e1]
    exact (((((((FrC.rf _ _ h).put (s + 1) (by unfold stR; simp) _).put (s + 2) (by unfold stR; simp) _).put (s + 3) (by unfold stR; simp) _).put (s + 4) (by unfold stR; simp) _).put (s + 5) (by unfold stR; simp) _).put (s + 6) (by unfold stR; simp) _).put (s + 7) (by unfold stR; simp) _
theorem StG.frC {h h' : AH} {s : Nat} (G : StG h s) {S O : List Nat} (f : FrC S O h h') : StG h' s := by
  unfold StG
  rw [f.2.1, f.2.2.1]
  exact G
theorem c_sbegin {h : AH} {s : Nat} (G : StG h s) : ∃ h', mX9_begin [.ref s] h = some (none, h') ∧ FrC (stR s) [s] h h' ∧ (∀ i, 1 ≤ i → i ≤ 7 → hR h' (s + i) = []) ∧ (∀ i, 8 ≤ i → i ≤ 10 → hR h' (s + i) = List.replicate 12 (iI 0)) ∧ ∀ k, 10 ≤ k → k ≤ 14 → hI h' s k = iI 0 := by
  obtain ⟨h0, a1, a2, a3, a4⟩ := c_emptied G
  obtain ⟨t0, p0, p1, p2, p3, p4, p5, p6, p7, p8, p9, t1, t2, t3, t4, t5, t6, t7, t8, t9, t10⟩ := G.frC a2
  have z0 : hT h s = (0, 9) := G.1
  obtain ⟨h8, e8⟩ : ∃ x, x = sR h0 (s + 8) (List.replicate 12 (iI 0)) := ⟨_, rfl⟩
  have tT8 : hT h8 = hT h0 := by rw [e8]; rfl
  have tP8 : hP h8 = hP h0 := by rw [e8]; rfl
  have c8 : mX5_fill [.ref (s + 8), .int (iI 12), .int (iI 0)] h0 = some (none, h8) := by
    have t : hT h0 (s + 8) = (1, 512) := by exact t8
    rw [e8]
    exact w_fill (h := h0) (n := 12) (by rw [t]) (by decide) (by rw [t]; decide)
  have k8 := ck5 (h := h0) t8
  obtain ⟨h9, e9⟩ : ∃ x, x = sR h8 (s + 9) (List.replicate 12 (iI 0)) := ⟨_, rfl⟩
  have tT9 : hT h9 = hT h0 := by rw [e9, e8]; rfl
  have tP9 : hP h9 = hP h0 := by rw [e9, e8]; rfl
  have c9 : mX5_fill [.ref (s + 9), .int (iI 12), .int (iI 0)] h8 = some (none, h9) := by
    have t : hT h8 (s + 9) = (1, 512) := by rw [tT8]; exact t9
    rw [e9]
    exact w_fill (h := h8) (n := 12) (by rw [t]) (by decide) (by rw [t]; decide)
  have k9 := ck5 (h := h0) t9
  obtain ⟨h10, e10⟩ : ∃ x, x = sR h9 (s + 10) (List.replicate 12 (iI 0)) := ⟨_, rfl⟩
  have tT10 : hT h10 = hT h0 := by rw [e10, e9, e8]; rfl
  have tP10 : hP h10 = hP h0 := by rw [e10, e9, e8]; rfl
  have c10 : mX5_fill [.ref (s + 10), .int (iI 12), .int (iI 0)] h9 = some (none, h10) := by
    have t : hT h9 (s + 10) = (1, 512) := by rw [tT9]; exact t10
    rw [e10]
    exact w_fill (h := h9) (n := 12) (by rw [t]) (by decide) (by rw [t]; decide)
  have k10 := ck5 (h := h0) t10
  obtain ⟨hE, eE⟩ : ∃ x, x = sI (sI (sI (sI (sI h10 s 10 (iI 0)) s 11 (iI 0)) s 12 (iI 0)) s 13 (iI 0)) s 14 (iI 0) := ⟨_, rfl⟩
  refine ⟨hE, ?_, ?_, fun i h1i hi7 => ?_, fun i hi8 hi10 => ?_, fun k hk1 hk2 => ?_⟩
  · clear a3 a4 a2 e8 e9 e10
    simp -implicitDefEqProofs (disch := omega) only [bind_ite, ev_itea, ev_seq, ev_seq0, ev_seq1, ev_seq2, ev_seqr, ev_if, ev_ift, ev_iff, ev_ifd, ev_ife, ev_ifet, ev_ifef, ev_ifed, ev_skip, ev_cont, ev_brk, ev_retV, ev_retI, ev_retIv, ev_retL, ev_retLv, ev_retR, ev_retRv, ev_for, ev_for0, ev_for2, ev_for1, ev_forr, ev_sc, ev_scv, ev_ex, ev_exv, ev_lsI, ev_lsIv, ev_lsL, ev_lsLv, ev_lsR, ev_lsRv, ev_ciI, ev_clL, ev_lvI0, ev_lvL0, ev_lvR0, ev_inc0, ev_s1_0, ev_s2_0, ev_lvI1, ev_lvL1, ev_lvR1, ev_inc1, ev_s1_1i, ev_s2_1i, ev_s1_1r, ev_s2_1r, ev_s1_1u, ev_s2_1u, ev_s1_1s, ev_s2_1s, ev_lvI2, ev_lvL2, ev_lvR2, ev_inc2, ev_s1_2i, ev_s2_2i, ev_s1_2r, ev_s2_2r, ev_s1_2u, ev_s2_2u, ev_s1_2s, ev_s2_2s, ev_lvI3, ev_lvL3, ev_lvR3, ev_inc3, ev_s1_3i, ev_s2_3i, ev_s1_3r, ev_s2_3r, ev_s1_3u, ev_s2_3u, ev_s1_3s, ev_s2_3s, ev_lvI4, ev_lvL4, ev_lvR4, ev_inc4, ev_s1_4i, ev_s2_4i, ev_s1_4r, ev_s2_4r, ev_s1_4u, ev_s2_4u, ev_s1_4s, ev_s2_4s, ev_lvI5, ev_lvL5, ev_lvR5, ev_inc5, ev_s1_5i, ev_s2_5i, ev_s1_5r, ev_s2_5r, ev_s1_5u, ev_s2_5u, ev_s1_5s, ev_s2_5s, ev_lvI6, ev_lvL6, ev_lvR6, ev_inc6, ev_s1_6i, ev_s2_6i, ev_s1_6r, ev_s2_6r, ev_s1_6u, ev_s2_6u, ev_s1_6s, ev_s2_6s, ev_lvI7, ev_lvL7, ev_lvR7, ev_inc7, ev_s1_7i, ev_s2_7i, ev_s1_7r, ev_s2_7r, ev_s1_7u, ev_s2_7u, ev_s1_7s, ev_s2_7s, ev_lvI8, ev_lvL8, ev_lvR8, ev_inc8, ev_s1_8i, ev_s2_8i, ev_s1_8r, ev_s2_8r, ev_s1_8u, ev_s2_8u, ev_s1_8s, ev_s2_8s, ev_lvI9, ev_lvL9, ev_lvR9, ev_inc9, ev_s1_9i, ev_s2_9i, ev_s1_9r, ev_s2_9r, ev_s1_9u, ev_s2_9u, ev_s1_9s, ev_s2_9s, ev_lvI10, ev_lvL10, ev_lvR10, ev_inc10, ev_s1_10i, ev_s2_10i, ev_s1_10r, ev_s2_10r, ev_s1_10u, ev_s2_10u, ev_s1_10s, ev_s2_10s, ev_lvI11, ev_lvL11, ev_lvR11, ev_inc11, ev_s1_11i, ev_s2_11i, ev_s1_11r, ev_s2_11r, ev_s1_11u, ev_s2_11u, ev_s1_11s, ev_s2_11s, ev_lvI12, ev_lvL12, ev_lvR12, ev_inc12, ev_s1_12i, ev_s2_12i, ev_s1_12r, ev_s2_12r, ev_s1_12u, ev_s2_12u, ev_s1_12s, ev_s2_12s, ev_lvI13, ev_lvL13, ev_lvR13, ev_inc13, ev_s1_13i, ev_s2_13i, ev_s1_13r, ev_s2_13r, ev_s1_13u, ev_s2_13u, ev_s1_13s, ev_s2_13s, ev_cut1_0, ev_cut1_1, ev_cut2_0, ev_cut2_1, ev_cut2_2, ev_cut3_0, ev_cut3_1, ev_cut3_2, ev_cut3_3, ev_cut4_0, ev_cut4_1, ev_cut4_2, ev_cut4_3, ev_cut4_4, ev_cut5_0, ev_cut5_1, ev_cut5_2, ev_cut5_3, ev_cut5_4, ev_cut5_5, ev_cut6_0, ev_cut6_1, ev_cut6_2, ev_cut6_3, ev_cut6_4, ev_cut6_5, ev_cut6_6, ev_cut7_0, ev_cut7_1, ev_cut7_2, ev_cut7_3, ev_cut7_4, ev_cut7_5, ev_cut7_6, ev_cut7_7, ev_cut8_0, ev_cut8_1, ev_cut8_2, ev_cut8_3, ev_cut8_4, ev_cut8_5, ev_cut8_6, ev_cut8_7, ev_cut8_8, ev_cut9_0, ev_cut9_1, ev_cut9_2, ev_cut9_3, ev_cut9_4, ev_cut9_5, ev_cut9_6, ev_cut9_7, ev_cut9_8, ev_cut9_9, ev_cut10_0, ev_cut10_1, ev_cut10_2, ev_cut10_3, ev_cut10_4, ev_cut10_5, ev_cut10_6, ev_cut10_7, ev_cut10_8, ev_cut10_9, ev_cut10_10, ev_cut11_0, ev_cut11_1, ev_cut11_2, ev_cut11_3, ev_cut11_4, ev_cut11_5, ev_cut11_6, ev_cut11_7, ev_cut11_8, ev_cut11_9, ev_cut11_10, ev_cut11_11, ev_cut12_0, ev_cut12_1, ev_cut12_2, ev_cut12_3, ev_cut12_4, ev_cut12_5, ev_cut12_6, ev_cut12_7, ev_cut12_8, ev_cut12_9, ev_cut12_10, ev_cut12_11, ev_cut12_12, ev_cut13_0, ev_cut13_1, ev_cut13_2, ev_cut13_3, ev_cut13_4, ev_cut13_5, ev_cut13_6, ev_cut13_7, ev_cut13_8, ev_cut13_9, ev_cut13_10, ev_cut13_11, ev_cut13_12, ev_cut13_13, ev_bin, ev_addI, ev_addIv, ev_subI, ev_subIv, ev_mulI, ev_mulIv, ev_andI, ev_andIv, ev_orI, ev_orIv, ev_xorI, ev_xorIv, ev_shlI, ev_shlIv, ev_shrI, ev_shrIv, ev_ushrI, ev_ushrIv, ev_addL, ev_addLv, ev_subL, ev_subLv, ev_mulL, ev_mulLv, ev_andL, ev_andLv, ev_orL, ev_orLv, ev_shlL, ev_shlLv, ev_divI, ev_divIv, ev_remI, ev_remIv, ev_divL, ev_divLv, ev_remL, ev_remLv, ev_eqI, ev_eqIv, ev_eqL, ev_eqLv, ev_eq0, ev_eq0v, ev_neI, ev_neIv, ev_neL, ev_neLv, ev_ne0, ev_ne0v, ev_ltI, ev_ltIv, ev_ltL, ev_ltLv, ev_lt0, ev_lt0v, ev_geI, ev_geIv, ev_geL, ev_geLv, ev_ge0, ev_ge0v, ev_gtI, ev_gtIv, ev_gtL, ev_gtLv, ev_gt0, ev_gt0v, ev_leI, ev_leIv, ev_leL, ev_leLv, ev_le0, ev_le0v, ev_i2L, ev_i2Lv, ev_l2I, ev_l2Iv, ev_nul, ev_nuls, ev_nuln, ev_andX, ev_andXt, ev_andXf, ev_andXd, ev_orX, ev_orXt, ev_orXf, ev_orXd, ev_notX, ev_notXv, ev_notd, ev_iteX, ev_iteXt, ev_iteXf, ev_iteXd, ev_getI, ev_getIv, ev_getL, ev_getLv, ev_getR, ev_getRv, ev_rsz, ev_rszv, ev_aldI, ev_aldIq, ev_aldIv, ev_aldL, ev_aldLq, ev_aldLv, ev_aldR, ev_aldRq, ev_aldRv, ev_aln, ev_putI, ev_putIq, ev_putIv, ev_putZ, ev_putZq, ev_putZv, ev_putL, ev_putLq, ev_putLv, ev_putR, ev_putRq, ev_putRv, ev_astI, ev_astIq, ev_astIi, ev_astIv, ev_astZ, ev_astZq, ev_astZi, ev_astZv, ev_astL, ev_astLq, ev_astLi, ev_astLv, ev_astR, ev_upd, ev_updq, ev_updv, ev_ina, ev_inaq, ev_inav, ev_rzs, ev_rzsq, ev_rzsv, ev_sw, ev_swx, ev_swr, ev_agN, ev_agC, ev_agi, ev_agl, ev_agr, ev_ag2, ev_calX, ev_calv, ev_decI, ev_decL, ev_decR, ev_calS, ev_clsv, ev_clsd, ev_ck0, ev_ck1, ev_cs1, ev_ck2, ev_cs2, ev_ck3, ev_cs3, ev_ck4, ev_cs4, ev_ck5, ev_cs5, ev_finV, ev_finI, ev_finL, ev_finR, ev_fin1, ev_fin0, ev_finZ, ev_newO, ev_newv, ev_newR, ev_newA, ev_newAv, ev_oi, ev_oiv, Option.bind_some, Option.bind_none, Option.bind_fun_some, reduceCtorEq, reduceIte, List.take_zero, Sum.inl.injEq, Sum.inr.injEq, Option.some.injEq, Prod.mk.injEq, Nat.reduceEqDiff, Nat.reduceAdd, Nat.reduceSub, Nat.reduceMul, Nat.reduceLT, Nat.reduceLeDiff, decide_true, decide_false, decide_eq_true_eq, decide_eq_false_iff_not, Bool.and_true, Bool.true_and, Bool.and_false, Bool.false_and, Bool.false_or, Bool.or_false, Bool.true_or, Bool.or_true, Bool.and_self, Bool.or_self, true_or, or_true, and_true, true_and, false_and, and_false, false_or, or_false, not_true_eq_false, not_false_eq_true, Bool.not_true, Bool.not_false, Bool.false_eq_true, and_self, ite_true, ite_false, eq_self, hT_sR, hP_sR, hI_sR, hL_sR, hN_sR, hR_sRu, hT_sI, hP_sI, hR_sI, hL_sI, hN_sI, hI_sI, hT_sL, hP_sL, hR_sL, hI_sL, hN_sL, hL_sL, hT_sP, hR_sP, hI_sP, hL_sP, hN_sP, hP_sP, u1_app, u2_app, hT_sA, hP_sA, hR_sA, hL_sA, hN_sA, hI_sA, sI_sA, sI_sI, sA_sA, sA_sI, hT_sLA, hP_sLA, hR_sLA, hI_sLA, hN_sLA, hL_sLA, sL_sLA, eX9_begin, bX9_begin, iI_lt2, iI_le2, iI_eq2, iI_lt0, iI_0lt, iI_le0, iI_0le, iI_eq0, iI_eq1, iI_nat2, iI_add, iI_sub, iI_mul, Int.toNat_natCast, if_pos, if_neg, z0, a1, t0, p7, p8, p9, c8, c9, c10, tT8, tP8, k8, tT9, tP9, k9, tT10, tP10, k10, ← eE]
  · rw [eE, e10, e9, e8]
    exact (((((((a2.put (s + 8) (by unfold stR; simp) _).put (s + 9) (by unfold stR; simp) _).put (s + 10) (by unfold stR; simp) _).putI s 10 (by simp) _).putI s 11 (by simp) _).putI s 12 (by simp) _).putI s 13 (by simp) _).putI s 14 (by simp) _
  · rw [eE]
    simp only [hR_sI]
    rw [e10, hR_sRu, u1_ne (by omega), e9, hR_sRu, u1_ne (by omega), e8, hR_sRu, u1_ne (by omega)]
    exact a4 i h1i hi7
  · rw [eE]
    simp only [hR_sI]
    rw [e10, e9, e8]
    simp only [hR_sRu, u1_app]
    repeat' split
    all_goals first
      | rfl
      | (exfalso; omega)
  · rw [eE]
    simp only [hI_sI, u2_app, true_and]
    repeat' split
    all_goals first
      | rfl
      | (exfalso; omega)
theorem c_fclear {h : AH} {a : Nat} (t0 : hT h a = (0, 3)) (hp : ∀ k, k < 8 → hP h a k = some (a + 1 + k)) (ht : ∀ k, k < 8 → hT h (a + 1 + k) = (1, 16384)) : ∃ h', mX3_clear [.ref a] h = some (none, h') ∧ FrC [a + 1, a + 2, a + 3, a + 4, a + 5, a + 6, a + 7, a + 8] [] h h' ∧ (∀ i, 1 ≤ i → i ≤ 8 → i ≠ 5 → hR h' (a + i) = []) ∧ hR h' (a + 5) = List.replicate 256 (iI (-1)) := by
  have p0 : hP h a 0 = some (a + 1) := by rw [hp 0 (by decide)]; try (congr 1; omega)
  have t1 : hT h (a + 1) = (1, 16384) := by
    have := ht 0 (by decide)
    have e : a + 1 + 0 = a + 1 := by omega
    rw [e] at this
    exact this
  obtain ⟨h1, e1⟩ : ∃ x, x = sR h (a + 1) [] := ⟨_, rfl⟩
  have tT1 : hT h1 = hT h := by rw [e1]; rfl
  have tP1 : hP h1 = hP h := by rw [e1]; rfl
  have c1 := ro_clear (h := h) (show hT h (a + 1) = (1, 16384) by exact t1)
  rw [← e1] at c1
  have k1 := ck5 (h := h) t1
  have p1 : hP h a 1 = some (a + 2) := by rw [hp 1 (by decide)]; try (congr 1; omega)
  have t2 : hT h (a + 2) = (1, 16384) := by
    have := ht 1 (by decide)
    have e : a + 1 + 1 = a + 2 := by omega
    rw [e] at this
    exact this
  obtain ⟨h2, e2⟩ : ∃ x, x = sR h1 (a + 2) [] := ⟨_, rfl⟩
  have tT2 : hT h2 = hT h := by rw [e2, e1]; rfl
  have tP2 : hP h2 = hP h := by rw [e2, e1]; rfl
  have c2 := ro_clear (h := h1) (show hT h1 (a + 2) = (1, 16384) by rw [tT1]; exact t2)
  rw [← e2] at c2
  have k2 := ck5 (h := h) t2
  have p2 : hP h a 2 = some (a + 3) := by rw [hp 2 (by decide)]; try (congr 1; omega)
  have t3 : hT h (a + 3) = (1, 16384) := by
    have := ht 2 (by decide)
    have e : a + 1 + 2 = a + 3 := by omega
    rw [e] at this
    exact this
  obtain ⟨h3, e3⟩ : ∃ x, x = sR h2 (a + 3) [] := ⟨_, rfl⟩
  have tT3 : hT h3 = hT h := by rw [e3, e2, e1]; rfl
  have tP3 : hP h3 = hP h := by rw [e3, e2, e1]; rfl
  have c3 := ro_clear (h := h2) (show hT h2 (a + 3) = (1, 16384) by rw [tT2]; exact t3)
  rw [← e3] at c3
  have k3 := ck5 (h := h) t3
  have p3 : hP h a 3 = some (a + 4) := by rw [hp 3 (by decide)]; try (congr 1; omega)
  have t4 : hT h (a + 4) = (1, 16384) := by
    have := ht 3 (by decide)
    have e : a + 1 + 3 = a + 4 := by omega
    rw [e] at this
    exact this
  obtain ⟨h4, e4⟩ : ∃ x, x = sR h3 (a + 4) [] := ⟨_, rfl⟩
  have tT4 : hT h4 = hT h := by rw [e4, e3, e2, e1]; rfl
  have tP4 : hP h4 = hP h := by rw [e4, e3, e2, e1]; rfl
  have c4 := ro_clear (h := h3) (show hT h3 (a + 4) = (1, 16384) by rw [tT3]; exact t4)
  rw [← e4] at c4
  have k4 := ck5 (h := h) t4
  have p4 : hP h a 4 = some (a + 5) := by rw [hp 4 (by decide)]; try (congr 1; omega)
  have t5 : hT h (a + 5) = (1, 16384) := by
    have := ht 4 (by decide)
    have e : a + 1 + 4 = a + 5 := by omega
    rw [e] at this
    exact this
  obtain ⟨h5, e5⟩ : ∃ x, x = sR h4 (a + 5) (List.replicate 256 (iI (-1))) := ⟨_, rfl⟩
  have tT5 : hT h5 = hT h := by rw [e5, e4, e3, e2, e1]; rfl
  have tP5 : hP h5 = hP h := by rw [e5, e4, e3, e2, e1]; rfl
  have c5 : mX5_fill [.ref (a + 5), .int (iI 256), .int (iI (-1))] h4 = some (none, h5) := by
    have t : hT h4 (a + 5) = (1, 16384) := by rw [tT4]; exact t5
    rw [e5]
    exact w_fill (h := h4) (n := 256) (by rw [t]) (by decide) (by rw [t]; decide)
  have k5 := ck5 (h := h) t5
  have p5 : hP h a 5 = some (a + 6) := by rw [hp 5 (by decide)]; try (congr 1; omega)
  have t6 : hT h (a + 6) = (1, 16384) := by
    have := ht 5 (by decide)
    have e : a + 1 + 5 = a + 6 := by omega
    rw [e] at this
    exact this
  obtain ⟨h6, e6⟩ : ∃ x, x = sR h5 (a + 6) [] := ⟨_, rfl⟩
  have tT6 : hT h6 = hT h := by rw [e6, e5, e4, e3, e2, e1]; rfl
  have tP6 : hP h6 = hP h := by rw [e6, e5, e4, e3, e2, e1]; rfl
  have c6 := ro_clear (h := h5) (show hT h5 (a + 6) = (1, 16384) by rw [tT5]; exact t6)
  rw [← e6] at c6
  have k6 := ck5 (h := h) t6
  have p6 : hP h a 6 = some (a + 7) := by rw [hp 6 (by decide)]; try (congr 1; omega)
  have t7 : hT h (a + 7) = (1, 16384) := by
    have := ht 6 (by decide)
    have e : a + 1 + 6 = a + 7 := by omega
    rw [e] at this
    exact this
  obtain ⟨h7, e7⟩ : ∃ x, x = sR h6 (a + 7) [] := ⟨_, rfl⟩
  have tT7 : hT h7 = hT h := by rw [e7, e6, e5, e4, e3, e2, e1]; rfl
  have tP7 : hP h7 = hP h := by rw [e7, e6, e5, e4, e3, e2, e1]; rfl
  have c7 := ro_clear (h := h6) (show hT h6 (a + 7) = (1, 16384) by rw [tT6]; exact t7)
  rw [← e7] at c7
  have k7 := ck5 (h := h) t7
  have p7 : hP h a 7 = some (a + 8) := by rw [hp 7 (by decide)]; try (congr 1; omega)
  have t8 : hT h (a + 8) = (1, 16384) := by
    have := ht 7 (by decide)
    have e : a + 1 + 7 = a + 8 := by omega
    rw [e] at this
    exact this
  obtain ⟨h8, e8⟩ : ∃ x, x = sR h7 (a + 8) [] := ⟨_, rfl⟩
  have tT8 : hT h8 = hT h := by rw [e8, e7, e6, e5, e4, e3, e2, e1]; rfl
  have tP8 : hP h8 = hP h := by rw [e8, e7, e6, e5, e4, e3, e2, e1]; rfl
  have c8 := ro_clear (h := h7) (show hT h7 (a + 8) = (1, 16384) by rw [tT7]; exact t8)
  rw [← e8] at c8
  have k8 := ck5 (h := h) t8
  refine ⟨h8, ?_, ?_, fun i h1i hi8 n5 => ?_, ?_⟩
  · clear e1 e2 e3 e4 e5 e6 e7 e8 hp ht
    simp -implicitDefEqProofs (disch := omega) only [bind_ite, ev_itea, ev_seq, ev_seq0, ev_seq1, ev_seq2, ev_seqr, ev_if, ev_ift, ev_iff, ev_ifd, ev_ife, ev_ifet, ev_ifef, ev_ifed, ev_skip, ev_cont, ev_brk, ev_retV, ev_retI, ev_retIv, ev_retL, ev_retLv, ev_retR, ev_retRv, ev_for, ev_for0, ev_for2, ev_for1, ev_forr, ev_sc, ev_scv, ev_ex, ev_exv, ev_lsI, ev_lsIv, ev_lsL, ev_lsLv, ev_lsR, ev_lsRv, ev_ciI, ev_clL, ev_lvI0, ev_lvL0, ev_lvR0, ev_inc0, ev_s1_0, ev_s2_0, ev_lvI1, ev_lvL1, ev_lvR1, ev_inc1, ev_s1_1i, ev_s2_1i, ev_s1_1r, ev_s2_1r, ev_s1_1u, ev_s2_1u, ev_s1_1s, ev_s2_1s, ev_lvI2, ev_lvL2, ev_lvR2, ev_inc2, ev_s1_2i, ev_s2_2i, ev_s1_2r, ev_s2_2r, ev_s1_2u, ev_s2_2u, ev_s1_2s, ev_s2_2s, ev_lvI3, ev_lvL3, ev_lvR3, ev_inc3, ev_s1_3i, ev_s2_3i, ev_s1_3r, ev_s2_3r, ev_s1_3u, ev_s2_3u, ev_s1_3s, ev_s2_3s, ev_lvI4, ev_lvL4, ev_lvR4, ev_inc4, ev_s1_4i, ev_s2_4i, ev_s1_4r, ev_s2_4r, ev_s1_4u, ev_s2_4u, ev_s1_4s, ev_s2_4s, ev_lvI5, ev_lvL5, ev_lvR5, ev_inc5, ev_s1_5i, ev_s2_5i, ev_s1_5r, ev_s2_5r, ev_s1_5u, ev_s2_5u, ev_s1_5s, ev_s2_5s, ev_lvI6, ev_lvL6, ev_lvR6, ev_inc6, ev_s1_6i, ev_s2_6i, ev_s1_6r, ev_s2_6r, ev_s1_6u, ev_s2_6u, ev_s1_6s, ev_s2_6s, ev_lvI7, ev_lvL7, ev_lvR7, ev_inc7, ev_s1_7i, ev_s2_7i, ev_s1_7r, ev_s2_7r, ev_s1_7u, ev_s2_7u, ev_s1_7s, ev_s2_7s, ev_lvI8, ev_lvL8, ev_lvR8, ev_inc8, ev_s1_8i, ev_s2_8i, ev_s1_8r, ev_s2_8r, ev_s1_8u, ev_s2_8u, ev_s1_8s, ev_s2_8s, ev_lvI9, ev_lvL9, ev_lvR9, ev_inc9, ev_s1_9i, ev_s2_9i, ev_s1_9r, ev_s2_9r, ev_s1_9u, ev_s2_9u, ev_s1_9s, ev_s2_9s, ev_lvI10, ev_lvL10, ev_lvR10, ev_inc10, ev_s1_10i, ev_s2_10i, ev_s1_10r, ev_s2_10r, ev_s1_10u, ev_s2_10u, ev_s1_10s, ev_s2_10s, ev_lvI11, ev_lvL11, ev_lvR11, ev_inc11, ev_s1_11i, ev_s2_11i, ev_s1_11r, ev_s2_11r, ev_s1_11u, ev_s2_11u, ev_s1_11s, ev_s2_11s, ev_lvI12, ev_lvL12, ev_lvR12, ev_inc12, ev_s1_12i, ev_s2_12i, ev_s1_12r, ev_s2_12r, ev_s1_12u, ev_s2_12u, ev_s1_12s, ev_s2_12s, ev_lvI13, ev_lvL13, ev_lvR13, ev_inc13, ev_s1_13i, ev_s2_13i, ev_s1_13r, ev_s2_13r, ev_s1_13u, ev_s2_13u, ev_s1_13s, ev_s2_13s, ev_cut1_0, ev_cut1_1, ev_cut2_0, ev_cut2_1, ev_cut2_2, ev_cut3_0, ev_cut3_1, ev_cut3_2, ev_cut3_3, ev_cut4_0, ev_cut4_1, ev_cut4_2, ev_cut4_3, ev_cut4_4, ev_cut5_0, ev_cut5_1, ev_cut5_2, ev_cut5_3, ev_cut5_4, ev_cut5_5, ev_cut6_0, ev_cut6_1, ev_cut6_2, ev_cut6_3, ev_cut6_4, ev_cut6_5, ev_cut6_6, ev_cut7_0, ev_cut7_1, ev_cut7_2, ev_cut7_3, ev_cut7_4, ev_cut7_5, ev_cut7_6, ev_cut7_7, ev_cut8_0, ev_cut8_1, ev_cut8_2, ev_cut8_3, ev_cut8_4, ev_cut8_5, ev_cut8_6, ev_cut8_7, ev_cut8_8, ev_cut9_0, ev_cut9_1, ev_cut9_2, ev_cut9_3, ev_cut9_4, ev_cut9_5, ev_cut9_6, ev_cut9_7, ev_cut9_8, ev_cut9_9, ev_cut10_0, ev_cut10_1, ev_cut10_2, ev_cut10_3, ev_cut10_4, ev_cut10_5, ev_cut10_6, ev_cut10_7, ev_cut10_8, ev_cut10_9, ev_cut10_10, ev_cut11_0, ev_cut11_1, ev_cut11_2, ev_cut11_3, ev_cut11_4, ev_cut11_5, ev_cut11_6, ev_cut11_7, ev_cut11_8, ev_cut11_9, ev_cut11_10, ev_cut11_11, ev_cut12_0, ev_cut12_1, ev_cut12_2, ev_cut12_3, ev_cut12_4, ev_cut12_5, ev_cut12_6, ev_cut12_7, ev_cut12_8, ev_cut12_9, ev_cut12_10, ev_cut12_11, ev_cut12_12, ev_cut13_0, ev_cut13_1, ev_cut13_2, ev_cut13_3, ev_cut13_4, ev_cut13_5, ev_cut13_6, ev_cut13_7, ev_cut13_8, ev_cut13_9, ev_cut13_10, ev_cut13_11, ev_cut13_12, ev_cut13_13, ev_bin, ev_addI, ev_addIv, ev_subI, ev_subIv, ev_mulI, ev_mulIv, ev_andI, ev_andIv, ev_orI, ev_orIv, ev_xorI, ev_xorIv, ev_shlI, ev_shlIv, ev_shrI, ev_shrIv, ev_ushrI, ev_ushrIv, ev_addL, ev_addLv, ev_subL, ev_subLv, ev_mulL, ev_mulLv, ev_andL, ev_andLv, ev_orL, ev_orLv, ev_shlL, ev_shlLv, ev_divI, ev_divIv, ev_remI, ev_remIv, ev_divL, ev_divLv, ev_remL, ev_remLv, ev_eqI, ev_eqIv, ev_eqL, ev_eqLv, ev_eq0, ev_eq0v, ev_neI, ev_neIv, ev_neL, ev_neLv, ev_ne0, ev_ne0v, ev_ltI, ev_ltIv, ev_ltL, ev_ltLv, ev_lt0, ev_lt0v, ev_geI, ev_geIv, ev_geL, ev_geLv, ev_ge0, ev_ge0v, ev_gtI, ev_gtIv, ev_gtL, ev_gtLv, ev_gt0, ev_gt0v, ev_leI, ev_leIv, ev_leL, ev_leLv, ev_le0, ev_le0v, ev_i2L, ev_i2Lv, ev_l2I, ev_l2Iv, ev_nul, ev_nuls, ev_nuln, ev_andX, ev_andXt, ev_andXf, ev_andXd, ev_orX, ev_orXt, ev_orXf, ev_orXd, ev_notX, ev_notXv, ev_notd, ev_iteX, ev_iteXt, ev_iteXf, ev_iteXd, ev_getI, ev_getIv, ev_getL, ev_getLv, ev_getR, ev_getRv, ev_rsz, ev_rszv, ev_aldI, ev_aldIq, ev_aldIv, ev_aldL, ev_aldLq, ev_aldLv, ev_aldR, ev_aldRq, ev_aldRv, ev_aln, ev_putI, ev_putIq, ev_putIv, ev_putZ, ev_putZq, ev_putZv, ev_putL, ev_putLq, ev_putLv, ev_putR, ev_putRq, ev_putRv, ev_astI, ev_astIq, ev_astIi, ev_astIv, ev_astZ, ev_astZq, ev_astZi, ev_astZv, ev_astL, ev_astLq, ev_astLi, ev_astLv, ev_astR, ev_upd, ev_updq, ev_updv, ev_ina, ev_inaq, ev_inav, ev_rzs, ev_rzsq, ev_rzsv, ev_sw, ev_swx, ev_swr, ev_agN, ev_agC, ev_agi, ev_agl, ev_agr, ev_ag2, ev_calX, ev_calv, ev_decI, ev_decL, ev_decR, ev_calS, ev_clsv, ev_clsd, ev_ck0, ev_ck1, ev_cs1, ev_ck2, ev_cs2, ev_ck3, ev_cs3, ev_ck4, ev_cs4, ev_ck5, ev_cs5, ev_finV, ev_finI, ev_finL, ev_finR, ev_fin1, ev_fin0, ev_finZ, ev_newO, ev_newv, ev_newR, ev_newA, ev_newAv, ev_oi, ev_oiv, Option.bind_some, Option.bind_none, Option.bind_fun_some, reduceCtorEq, reduceIte, List.take_zero, Sum.inl.injEq, Sum.inr.injEq, Option.some.injEq, Prod.mk.injEq, Nat.reduceEqDiff, Nat.reduceAdd, Nat.reduceSub, Nat.reduceMul, Nat.reduceLT, Nat.reduceLeDiff, decide_true, decide_false, decide_eq_true_eq, decide_eq_false_iff_not, Bool.and_true, Bool.true_and, Bool.and_false, Bool.false_and, Bool.false_or, Bool.or_false, Bool.true_or, Bool.or_true, Bool.and_self, Bool.or_self, true_or, or_true, and_true, true_and, false_and, and_false, false_or, or_false, not_true_eq_false, not_false_eq_true, Bool.not_true, Bool.not_false, Bool.false_eq_true, and_self, ite_true, ite_false, eq_self, hT_sR, hP_sR, hI_sR, hL_sR, hN_sR, hR_sRu, hT_sI, hP_sI, hR_sI, hL_sI, hN_sI, hI_sI, hT_sL, hP_sL, hR_sL, hI_sL, hN_sL, hL_sL, hT_sP, hR_sP, hI_sP, hL_sP, hN_sP, hP_sP, u1_app, u2_app, hT_sA, hP_sA, hR_sA, hL_sA, hN_sA, hI_sA, sI_sA, sI_sI, sA_sA, sA_sI, hT_sLA, hP_sLA, hR_sLA, hI_sLA, hN_sLA, hL_sLA, sL_sLA, eX3_clear, bX3_clear, iI_lt2, iI_le2, iI_eq2, iI_lt0, iI_0lt, iI_le0, iI_0le, iI_eq0, iI_eq1, iI_nat2, iI_add, iI_sub, iI_mul, Int.toNat_natCast, if_pos, if_neg, c1, tT1, tP1, k1, c2, tT2, tP2, k2, c3, tT3, tP3, k3, c4, tT4, tP4, k4, c5, tT5, tP5, k5, c6, tT6, tP6, k6, c7, tT7, tP7, k7, c8, tT8, tP8, k8, t0, p0, p1, p2, p3, p4, p5, p6, p7]
  · rw [e8, e7, e6, e5, e4, e3, e2, e1]
    exact ((((((((FrC.rf _ _ h).put (a + 1) (by simp) _).put (a + 2) (by simp) _).put (a + 3) (by simp) _).put (a + 4) (by simp) _).put (a + 5) (by simp) _).put (a + 6) (by simp) _).put (a + 7) (by simp) _).put (a + 8) (by simp) _
  · rw [e8, e7, e6, e5, e4, e3, e2, e1]
    simp only [hR_sRu, u1_app]
    repeat' split
    all_goals first
      | rfl
      | (exfalso; omega)
  · rw [e8, hR_sRu, u1_ne (by omega), e7, hR_sRu, u1_ne (by omega), e6, hR_sRu, u1_ne (by omega), e5, hR_sRu, u1_eq]
/-- kinds and references of the vault's cells -/
def VgG (h : AH) : Prop := (∀ q, 11 ≤ q → q < 75 → hT h q = gTl.getD q (9, 0)) ∧ ∀ x ∈ gPl, 11 ≤ x.1 → x.1 < 75 → hP h x.1 x.2.1 = some x.2.2
theorem VgG.of {h : AH} (g : Gr h) : VgG h := ⟨fun q _ hq => g.2.1 q (by omega), fun x hx _ _ => g.2.2.1 x hx⟩
theorem VgG.same {h h' : AH} (g : VgG h) (ht : hT h' = hT h) (hp : hP h' = hP h) : VgG h' := by
  unfold VgG
  rw [ht, hp]
  exact g
/-- what the vault is when it begins -/
def VbC (h : AH) : Prop := (∀ q ∈ [28, 29, 30, 31, 33, 34, 35, 37, 43, 44, 45, 46, 50, 51, 52, 53, 54, 55, 56], hR h q = []) ∧ hR h 32 = List.replicate 256 (iI (-1)) ∧ (∀ q ∈ [57, 58, 59], hR h q = List.replicate 12 (iI 0)) ∧ (∀ q ∈ [72, 73, 74], hR h q = List.replicate 64 (iI 0)) ∧ (∀ k, 10 ≤ k → k ≤ 14 → hI h 49 k = iI 0) ∧ hI h 11 13 = iI 0 ∧ hI h 11 14 = iI 0
def vbS : List Nat := [28, 29, 30, 31, 32, 33, 34, 35, 37, 43, 44, 45, 46, 50, 51, 52, 53, 54, 55, 56, 57, 58, 59, 72, 73, 74]
theorem c_vbegin {h : AH} (g : VgG h) (r : Nat) : ∃ h', mX10_begin [.ref 11, .ref r] h = some (none, h') ∧ FrC vbS [11, 49] (sP h 11 0 (some r)) h' ∧ (∀ k, k ≠ 13 → k ≠ 14 → hI h' 11 k = hI h 11 k) ∧ VbC h' := by
  obtain ⟨hA, eA⟩ : ∃ x, x = sP h 11 0 (some r) := ⟨_, rfl⟩
  have n11 : ∀ x ∈ gPl, ¬ (x.1 = 11 ∧ x.2.1 = 0) := by decide +kernel
  have gA : VgG hA := by
    rw [eA]
    refine ⟨g.1, fun x hx h1 h2 => ?_⟩
    rw [hP_sP, u2_app, if_neg (n11 x hx)]
    exact g.2 x hx h1 h2
  have T : ∀ H : AH, VgG H → ∀ q, 11 ≤ q → q < 75 → hT H q = gTl.getD q (9, 0) := fun H G => G.1
  obtain ⟨hB, b1, b2, b3, b4⟩ := c_fclear (h := hA) (a := 27) (gA.1 27 (by decide) (by decide)) (fun k hk => by
    match k, hk with
    | 0, _ => exact gA.2 (27, 0, 28) (by decide +kernel) (by decide) (by decide)
    | 1, _ => exact gA.2 (27, 1, 29) (by decide +kernel) (by decide) (by decide)
    | 2, _ => exact gA.2 (27, 2, 30) (by decide +kernel) (by decide) (by decide)
    | 3, _ => exact gA.2 (27, 3, 31) (by decide +kernel) (by decide) (by decide)
    | 4, _ => exact gA.2 (27, 4, 32) (by decide +kernel) (by decide) (by decide)
    | 5, _ => exact gA.2 (27, 5, 33) (by decide +kernel) (by decide) (by decide)
    | 6, _ => exact gA.2 (27, 6, 34) (by decide +kernel) (by decide) (by decide)
    | 7, _ => exact gA.2 (27, 7, 35) (by decide +kernel) (by decide) (by decide)) (fun k hk => by
    match k, hk with
    | 0, _ => exact gA.1 28 (by decide) (by decide)
    | 1, _ => exact gA.1 29 (by decide) (by decide)
    | 2, _ => exact gA.1 30 (by decide) (by decide)
    | 3, _ => exact gA.1 31 (by decide) (by decide)
    | 4, _ => exact gA.1 32 (by decide) (by decide)
    | 5, _ => exact gA.1 33 (by decide) (by decide)
    | 6, _ => exact gA.1 34 (by decide) (by decide)
    | 7, _ => exact gA.1 35 (by decide) (by decide))
  have gB : VgG hB := gA.same b2.2.1 b2.2.2.1
  have c0 := ro_clear (h := hB) (q := 43) (lim := 16384) (gB.1 43 (by decide) (by decide))
  obtain ⟨hC0, eC0⟩ : ∃ x, x = sR hB 43 [] := ⟨_, rfl⟩
  rw [← eC0] at c0
  have gC0 : VgG hC0 := gB.same (by rw [eC0]; rfl) (by rw [eC0]; rfl)
  have fC0 : FrC vbS [11, 49] hB hC0 := by rw [eC0]; exact (FrC.rf _ _ hB).put 43 (by decide) _
  have c1 := ro_clear (h := hC0) (q := 44) (lim := 16384) (gC0.1 44 (by decide) (by decide))
  obtain ⟨hC1, eC1⟩ : ∃ x, x = sR hC0 44 [] := ⟨_, rfl⟩
  rw [← eC1] at c1
  have gC1 : VgG hC1 := gC0.same (by rw [eC1]; rfl) (by rw [eC1]; rfl)
  have fC1 : FrC vbS [11, 49] hC0 hC1 := by rw [eC1]; exact (FrC.rf _ _ hC0).put 44 (by decide) _
  have c2 := ro_clear (h := hC1) (q := 45) (lim := 16384) (gC1.1 45 (by decide) (by decide))
  obtain ⟨hC2, eC2⟩ : ∃ x, x = sR hC1 45 [] := ⟨_, rfl⟩
  rw [← eC2] at c2
  have gC2 : VgG hC2 := gC1.same (by rw [eC2]; rfl) (by rw [eC2]; rfl)
  have fC2 : FrC vbS [11, 49] hC1 hC2 := by rw [eC2]; exact (FrC.rf _ _ hC1).put 45 (by decide) _
  have c3 := ro_clear (h := hC2) (q := 37) (lim := 16384) (gC2.1 37 (by decide) (by decide))
  obtain ⟨hC3, eC3⟩ : ∃ x, x = sR hC2 37 [] := ⟨_, rfl⟩
  rw [← eC3] at c3
  have gC3 : VgG hC3 := gC2.same (by rw [eC3]; rfl) (by rw [eC3]; rfl)
  have fC3 : FrC vbS [11, 49] hC2 hC3 := by rw [eC3]; exact (FrC.rf _ _ hC2).put 37 (by decide) _
  have c4 := ro_clear (h := hC3) (q := 46) (lim := 16384) (gC3.1 46 (by decide) (by decide))
  obtain ⟨hC4, eC4⟩ : ∃ x, x = sR hC3 46 [] := ⟨_, rfl⟩
  rw [← eC4] at c4
  have gC4 : VgG hC4 := gC3.same (by rw [eC4]; rfl) (by rw [eC4]; rfl)
  have fC4 : FrC vbS [11, 49] hC3 hC4 := by rw [eC4]; exact (FrC.rf _ _ hC3).put 46 (by decide) _
  obtain ⟨hD, d1, d2, d3, d4, d5⟩ := c_sbegin (h := hC4) (s := 49) ⟨gC4.1 49 (by decide) (by decide), gC4.2 (49, 0, 50) (by decide +kernel) (by decide) (by decide), gC4.2 (49, 1, 51) (by decide +kernel) (by decide) (by decide), gC4.2 (49, 2, 52) (by decide +kernel) (by decide) (by decide), gC4.2 (49, 3, 53) (by decide +kernel) (by decide) (by decide), gC4.2 (49, 4, 54) (by decide +kernel) (by decide) (by decide), gC4.2 (49, 5, 55) (by decide +kernel) (by decide) (by decide), gC4.2 (49, 6, 56) (by decide +kernel) (by decide) (by decide), gC4.2 (49, 7, 57) (by decide +kernel) (by decide) (by decide), gC4.2 (49, 8, 58) (by decide +kernel) (by decide) (by decide), gC4.2 (49, 9, 59) (by decide +kernel) (by decide) (by decide), gC4.1 50 (by decide) (by decide), gC4.1 51 (by decide) (by decide), gC4.1 52 (by decide) (by decide), gC4.1 53 (by decide) (by decide), gC4.1 54 (by decide) (by decide), gC4.1 55 (by decide) (by decide), gC4.1 56 (by decide) (by decide), gC4.1 57 (by decide) (by decide), gC4.1 58 (by decide) (by decide), gC4.1 59 (by decide) (by decide)⟩
  have gD : VgG hD := gC4.same d2.2.1 d2.2.2.1
  obtain ⟨hE, eE⟩ : ∃ x, x = sI (sI hD 11 13 (iI 0)) 11 14 (iI 0) := ⟨_, rfl⟩
  have gE : VgG hE := gD.same (by rw [eE]; rfl) (by rw [eE]; rfl)
  have fE : FrC vbS [11, 49] hD hE := by rw [eE]; exact ((FrC.rf _ _ hD).putI 11 13 (by simp) _).putI 11 14 (by simp) _
  have w0 : mX5_fill [.ref 72, .int (iI 64), .int (iI 0)] hE = some (none, sR hE 72 (List.replicate 64 (iI 0))) := by
    have t : hT hE 72 = (1, 16384) := gE.1 72 (by decide) (by decide)
    exact w_fill (h := hE) (n := 64) (by rw [t]) (by decide) (by rw [t]; decide)
  obtain ⟨hF0, eF0⟩ : ∃ x, x = sR hE 72 (List.replicate 64 (iI 0)) := ⟨_, rfl⟩
  rw [← eF0] at w0
  have gF0 : VgG hF0 := gE.same (by rw [eF0]; rfl) (by rw [eF0]; rfl)
  have fF0 : FrC vbS [11, 49] hE hF0 := by rw [eF0]; exact (FrC.rf _ _ hE).put 72 (by decide) _
  have w1 : mX5_fill [.ref 73, .int (iI 64), .int (iI 0)] hF0 = some (none, sR hF0 73 (List.replicate 64 (iI 0))) := by
    have t : hT hF0 73 = (1, 16384) := gF0.1 73 (by decide) (by decide)
    exact w_fill (h := hF0) (n := 64) (by rw [t]) (by decide) (by rw [t]; decide)
  obtain ⟨hF1, eF1⟩ : ∃ x, x = sR hF0 73 (List.replicate 64 (iI 0)) := ⟨_, rfl⟩
  rw [← eF1] at w1
  have gF1 : VgG hF1 := gF0.same (by rw [eF1]; rfl) (by rw [eF1]; rfl)
  have fF1 : FrC vbS [11, 49] hF0 hF1 := by rw [eF1]; exact (FrC.rf _ _ hF0).put 73 (by decide) _
  have w2 : mX5_fill [.ref 74, .int (iI 64), .int (iI 0)] hF1 = some (none, sR hF1 74 (List.replicate 64 (iI 0))) := by
    have t : hT hF1 74 = (1, 16384) := gF1.1 74 (by decide) (by decide)
    exact w_fill (h := hF1) (n := 64) (by rw [t]) (by decide) (by rw [t]; decide)
  obtain ⟨hF2, eF2⟩ : ∃ x, x = sR hF1 74 (List.replicate 64 (iI 0)) := ⟨_, rfl⟩
  rw [← eF2] at w2
  have gF2 : VgG hF2 := gF1.same (by rw [eF2]; rfl) (by rw [eF2]; rfl)
  have fF2 : FrC vbS [11, 49] hF1 hF2 := by rw [eF2]; exact (FrC.rf _ _ hF1).put 74 (by decide) _
  have fAB : FrC vbS [11, 49] hA hB := b2.mono (by decide) (by simp)
  have fCD : FrC vbS [11, 49] hC4 hD := d2.mono (by decide) (by simp)
  have fB4 : FrC vbS [11, 49] hB hC4 := (((fC0.tr fC1).tr fC2).tr fC3).tr fC4
  have fEF : FrC vbS [11, 49] hE hF2 := (fF0.tr fF1).tr fF2
  have ff : FrC vbS [11, 49] hA hF2 := (((fAB.tr fB4).tr fCD).tr fE).tr fEF
  have y0 : hT h 11 = (0, 10) := g.1 11 (by decide) (by decide)
  have y1 : hT hA 11 = (0, 10) := gA.1 11 (by decide) (by decide)
  have y2 : hT hB 11 = (0, 10) := gB.1 11 (by decide) (by decide)
  have y3 : hT hC0 11 = (0, 10) := gC0.1 11 (by decide) (by decide)
  have y4 : hT hC1 11 = (0, 10) := gC1.1 11 (by decide) (by decide)
  have y5 : hT hC2 11 = (0, 10) := gC2.1 11 (by decide) (by decide)
  have y6 : hT hC3 11 = (0, 10) := gC3.1 11 (by decide) (by decide)
  have y7 : hT hC4 11 = (0, 10) := gC4.1 11 (by decide) (by decide)
  have y8 : hT hD 11 = (0, 10) := gD.1 11 (by decide) (by decide)
  have y9 : hT hE 11 = (0, 10) := gE.1 11 (by decide) (by decide)
  have y10 : hT hF0 11 = (0, 10) := gF0.1 11 (by decide) (by decide)
  have y11 : hT hF1 11 = (0, 10) := gF1.1 11 (by decide) (by decide)
  have y12 : hT hF2 11 = (0, 10) := gF2.1 11 (by decide) (by decide)
  have y13 : hT hA 27 = (0, 3) := gA.1 27 (by decide) (by decide)
  have y14 : hP hA 11 2 = some 27 := gA.2 (11, 2, 27) (by decide +kernel) (by decide) (by decide)
  have y15 : hT hB 43 = (1, 16384) := gB.1 43 (by decide) (by decide)
  have y16 : hP hB 11 4 = some 43 := gB.2 (11, 4, 43) (by decide +kernel) (by decide) (by decide)
  have y17 : hT hC0 44 = (1, 16384) := gC0.1 44 (by decide) (by decide)
  have y18 : hP hC0 11 5 = some 44 := gC0.2 (11, 5, 44) (by decide +kernel) (by decide) (by decide)
  have y19 : hT hC1 45 = (1, 16384) := gC1.1 45 (by decide) (by decide)
  have y20 : hP hC1 11 6 = some 45 := gC1.2 (11, 6, 45) (by decide +kernel) (by decide) (by decide)
  have y21 : hT hC3 46 = (1, 16384) := gC3.1 46 (by decide) (by decide)
  have y22 : hP hC3 11 7 = some 46 := gC3.2 (11, 7, 46) (by decide +kernel) (by decide) (by decide)
  have y23 : hT hC2 36 = (0, 7) := gC2.1 36 (by decide) (by decide)
  have y24 : hP hC2 11 3 = some 36 := gC2.2 (11, 3, 36) (by decide +kernel) (by decide) (by decide)
  have y25 : hT hC2 37 = (1, 16384) := gC2.1 37 (by decide) (by decide)
  have y26 : hP hC2 36 0 = some 37 := gC2.2 (36, 0, 37) (by decide +kernel) (by decide) (by decide)
  have y27 : hT hC4 49 = (0, 9) := gC4.1 49 (by decide) (by decide)
  have y28 : hP hC4 11 10 = some 49 := gC4.2 (11, 10, 49) (by decide +kernel) (by decide) (by decide)
  have y29 : hT hE 72 = (1, 16384) := gE.1 72 (by decide) (by decide)
  have y30 : hP hE 11 16 = some 72 := gE.2 (11, 16, 72) (by decide +kernel) (by decide) (by decide)
  have y31 : hT hF0 73 = (1, 16384) := gF0.1 73 (by decide) (by decide)
  have y32 : hP hF0 11 17 = some 73 := gF0.2 (11, 17, 73) (by decide +kernel) (by decide) (by decide)
  have y33 : hT hF1 74 = (1, 16384) := gF1.1 74 (by decide) (by decide)
  have y34 : hP hF1 11 18 = some 74 := gF1.2 (11, 18, 74) (by decide +kernel) (by decide) (by decide)
  have kk : ∀ x : Nat × Nat, x = (1, 16384) → (decide (x = (0, 5)) || decide (x.1 = 1)) = true := fun x e => by rw [e]; rfl
  refine ⟨hF2, ?_, by rw [← eA]; exact ff, fun k k13 k14 => ?_, ?_⟩
  · clear b3 b4 d3 d4 d5 eC0 eC1 eC2 eC3 eC4 eF0 eF1 eF2 ff fAB fCD fB4 fEF fE fC0 fC1 fC2 fC3 fC4 fF0 fF1 fF2 T n11
    simp -implicitDefEqProofs (disch := omega) only [bind_ite, ev_itea, ev_seq, ev_seq0, ev_seq1, ev_seq2, ev_seqr, ev_if, ev_ift, ev_iff, ev_ifd, ev_ife, ev_ifet, ev_ifef, ev_ifed, ev_skip, ev_cont, ev_brk, ev_retV, ev_retI, ev_retIv, ev_retL, ev_retLv, ev_retR, ev_retRv, ev_for, ev_for0, ev_for2, ev_for1, ev_forr, ev_sc, ev_scv, ev_ex, ev_exv, ev_lsI, ev_lsIv, ev_lsL, ev_lsLv, ev_lsR, ev_lsRv, ev_ciI, ev_clL, ev_lvI0, ev_lvL0, ev_lvR0, ev_inc0, ev_s1_0, ev_s2_0, ev_lvI1, ev_lvL1, ev_lvR1, ev_inc1, ev_s1_1i, ev_s2_1i, ev_s1_1r, ev_s2_1r, ev_s1_1u, ev_s2_1u, ev_s1_1s, ev_s2_1s, ev_lvI2, ev_lvL2, ev_lvR2, ev_inc2, ev_s1_2i, ev_s2_2i, ev_s1_2r, ev_s2_2r, ev_s1_2u, ev_s2_2u, ev_s1_2s, ev_s2_2s, ev_lvI3, ev_lvL3, ev_lvR3, ev_inc3, ev_s1_3i, ev_s2_3i, ev_s1_3r, ev_s2_3r, ev_s1_3u, ev_s2_3u, ev_s1_3s, ev_s2_3s, ev_lvI4, ev_lvL4, ev_lvR4, ev_inc4, ev_s1_4i, ev_s2_4i, ev_s1_4r, ev_s2_4r, ev_s1_4u, ev_s2_4u, ev_s1_4s, ev_s2_4s, ev_lvI5, ev_lvL5, ev_lvR5, ev_inc5, ev_s1_5i, ev_s2_5i, ev_s1_5r, ev_s2_5r, ev_s1_5u, ev_s2_5u, ev_s1_5s, ev_s2_5s, ev_lvI6, ev_lvL6, ev_lvR6, ev_inc6, ev_s1_6i, ev_s2_6i, ev_s1_6r, ev_s2_6r, ev_s1_6u, ev_s2_6u, ev_s1_6s, ev_s2_6s, ev_lvI7, ev_lvL7, ev_lvR7, ev_inc7, ev_s1_7i, ev_s2_7i, ev_s1_7r, ev_s2_7r, ev_s1_7u, ev_s2_7u, ev_s1_7s, ev_s2_7s, ev_lvI8, ev_lvL8, ev_lvR8, ev_inc8, ev_s1_8i, ev_s2_8i, ev_s1_8r, ev_s2_8r, ev_s1_8u, ev_s2_8u, ev_s1_8s, ev_s2_8s, ev_lvI9, ev_lvL9, ev_lvR9, ev_inc9, ev_s1_9i, ev_s2_9i, ev_s1_9r, ev_s2_9r, ev_s1_9u, ev_s2_9u, ev_s1_9s, ev_s2_9s, ev_lvI10, ev_lvL10, ev_lvR10, ev_inc10, ev_s1_10i, ev_s2_10i, ev_s1_10r, ev_s2_10r, ev_s1_10u, ev_s2_10u, ev_s1_10s, ev_s2_10s, ev_lvI11, ev_lvL11, ev_lvR11, ev_inc11, ev_s1_11i, ev_s2_11i, ev_s1_11r, ev_s2_11r, ev_s1_11u, ev_s2_11u, ev_s1_11s, ev_s2_11s, ev_lvI12, ev_lvL12, ev_lvR12, ev_inc12, ev_s1_12i, ev_s2_12i, ev_s1_12r, ev_s2_12r, ev_s1_12u, ev_s2_12u, ev_s1_12s, ev_s2_12s, ev_lvI13, ev_lvL13, ev_lvR13, ev_inc13, ev_s1_13i, ev_s2_13i, ev_s1_13r, ev_s2_13r, ev_s1_13u, ev_s2_13u, ev_s1_13s, ev_s2_13s, ev_cut1_0, ev_cut1_1, ev_cut2_0, ev_cut2_1, ev_cut2_2, ev_cut3_0, ev_cut3_1, ev_cut3_2, ev_cut3_3, ev_cut4_0, ev_cut4_1, ev_cut4_2, ev_cut4_3, ev_cut4_4, ev_cut5_0, ev_cut5_1, ev_cut5_2, ev_cut5_3, ev_cut5_4, ev_cut5_5, ev_cut6_0, ev_cut6_1, ev_cut6_2, ev_cut6_3, ev_cut6_4, ev_cut6_5, ev_cut6_6, ev_cut7_0, ev_cut7_1, ev_cut7_2, ev_cut7_3, ev_cut7_4, ev_cut7_5, ev_cut7_6, ev_cut7_7, ev_cut8_0, ev_cut8_1, ev_cut8_2, ev_cut8_3, ev_cut8_4, ev_cut8_5, ev_cut8_6, ev_cut8_7, ev_cut8_8, ev_cut9_0, ev_cut9_1, ev_cut9_2, ev_cut9_3, ev_cut9_4, ev_cut9_5, ev_cut9_6, ev_cut9_7, ev_cut9_8, ev_cut9_9, ev_cut10_0, ev_cut10_1, ev_cut10_2, ev_cut10_3, ev_cut10_4, ev_cut10_5, ev_cut10_6, ev_cut10_7, ev_cut10_8, ev_cut10_9, ev_cut10_10, ev_cut11_0, ev_cut11_1, ev_cut11_2, ev_cut11_3, ev_cut11_4, ev_cut11_5, ev_cut11_6, ev_cut11_7, ev_cut11_8, ev_cut11_9, ev_cut11_10, ev_cut11_11, ev_cut12_0, ev_cut12_1, ev_cut12_2, ev_cut12_3, ev_cut12_4, ev_cut12_5, ev_cut12_6, ev_cut12_7, ev_cut12_8, ev_cut12_9, ev_cut12_10, ev_cut12_11, ev_cut12_12, ev_cut13_0, ev_cut13_1, ev_cut13_2, ev_cut13_3, ev_cut13_4, ev_cut13_5, ev_cut13_6, ev_cut13_7, ev_cut13_8, ev_cut13_9, ev_cut13_10, ev_cut13_11, ev_cut13_12, ev_cut13_13, ev_bin, ev_addI, ev_addIv, ev_subI, ev_subIv, ev_mulI, ev_mulIv, ev_andI, ev_andIv, ev_orI, ev_orIv, ev_xorI, ev_xorIv, ev_shlI, ev_shlIv, ev_shrI, ev_shrIv, ev_ushrI, ev_ushrIv, ev_addL, ev_addLv, ev_subL, ev_subLv, ev_mulL, ev_mulLv, ev_andL, ev_andLv, ev_orL, ev_orLv, ev_shlL, ev_shlLv, ev_divI, ev_divIv, ev_remI, ev_remIv, ev_divL, ev_divLv, ev_remL, ev_remLv, ev_eqI, ev_eqIv, ev_eqL, ev_eqLv, ev_eq0, ev_eq0v, ev_neI, ev_neIv, ev_neL, ev_neLv, ev_ne0, ev_ne0v, ev_ltI, ev_ltIv, ev_ltL, ev_ltLv, ev_lt0, ev_lt0v, ev_geI, ev_geIv, ev_geL, ev_geLv, ev_ge0, ev_ge0v, ev_gtI, ev_gtIv, ev_gtL, ev_gtLv, ev_gt0, ev_gt0v, ev_leI, ev_leIv, ev_leL, ev_leLv, ev_le0, ev_le0v, ev_i2L, ev_i2Lv, ev_l2I, ev_l2Iv, ev_nul, ev_nuls, ev_nuln, ev_andX, ev_andXt, ev_andXf, ev_andXd, ev_orX, ev_orXt, ev_orXf, ev_orXd, ev_notX, ev_notXv, ev_notd, ev_iteX, ev_iteXt, ev_iteXf, ev_iteXd, ev_getI, ev_getIv, ev_getL, ev_getLv, ev_getR, ev_getRv, ev_rsz, ev_rszv, ev_aldI, ev_aldIq, ev_aldIv, ev_aldL, ev_aldLq, ev_aldLv, ev_aldR, ev_aldRq, ev_aldRv, ev_aln, ev_putI, ev_putIq, ev_putIv, ev_putZ, ev_putZq, ev_putZv, ev_putL, ev_putLq, ev_putLv, ev_putR, ev_putRq, ev_putRv, ev_astI, ev_astIq, ev_astIi, ev_astIv, ev_astZ, ev_astZq, ev_astZi, ev_astZv, ev_astL, ev_astLq, ev_astLi, ev_astLv, ev_astR, ev_upd, ev_updq, ev_updv, ev_ina, ev_inaq, ev_inav, ev_rzs, ev_rzsq, ev_rzsv, ev_sw, ev_swx, ev_swr, ev_agN, ev_agC, ev_agi, ev_agl, ev_agr, ev_ag2, ev_calX, ev_calv, ev_decI, ev_decL, ev_decR, ev_calS, ev_clsv, ev_clsd, ev_ck0, ev_ck1, ev_cs1, ev_ck2, ev_cs2, ev_ck3, ev_cs3, ev_ck4, ev_cs4, ev_ck5, ev_cs5, ev_finV, ev_finI, ev_finL, ev_finR, ev_fin1, ev_fin0, ev_finZ, ev_newO, ev_newv, ev_newR, ev_newA, ev_newAv, ev_oi, ev_oiv, Option.bind_some, Option.bind_none, Option.bind_fun_some, reduceCtorEq, reduceIte, List.take_zero, Sum.inl.injEq, Sum.inr.injEq, Option.some.injEq, Prod.mk.injEq, Nat.reduceEqDiff, Nat.reduceAdd, Nat.reduceSub, Nat.reduceMul, Nat.reduceLT, Nat.reduceLeDiff, decide_true, decide_false, decide_eq_true_eq, decide_eq_false_iff_not, Bool.and_true, Bool.true_and, Bool.and_false, Bool.false_and, Bool.false_or, Bool.or_false, Bool.true_or, Bool.or_true, Bool.and_self, Bool.or_self, true_or, or_true, and_true, true_and, false_and, and_false, false_or, or_false, not_true_eq_false, not_false_eq_true, Bool.not_true, Bool.not_false, Bool.false_eq_true, and_self, ite_true, ite_false, eq_self, hT_sR, hP_sR, hI_sR, hL_sR, hN_sR, hR_sRu, hT_sI, hP_sI, hR_sI, hL_sI, hN_sI, hI_sI, hT_sL, hP_sL, hR_sL, hI_sL, hN_sL, hL_sL, hT_sP, hR_sP, hI_sP, hL_sP, hN_sP, hP_sP, u1_app, u2_app, hT_sA, hP_sA, hR_sA, hL_sA, hN_sA, hI_sA, sI_sA, sI_sI, sA_sA, sA_sI, hT_sLA, hP_sLA, hR_sLA, hI_sLA, hN_sLA, hL_sLA, sL_sLA, eX10_begin, bX10_begin, iI_lt2, iI_le2, iI_eq2, iI_lt0, iI_0lt, iI_le0, iI_0le, iI_eq0, iI_eq1, iI_nat2, iI_add, iI_sub, iI_mul, Int.toNat_natCast, if_pos, if_neg, y0, ← eA]
    simp -implicitDefEqProofs (disch := omega) only [bind_ite, ev_itea, ev_seq, ev_seq0, ev_seq1, ev_seq2, ev_seqr, ev_if, ev_ift, ev_iff, ev_ifd, ev_ife, ev_ifet, ev_ifef, ev_ifed, ev_skip, ev_cont, ev_brk, ev_retV, ev_retI, ev_retIv, ev_retL, ev_retLv, ev_retR, ev_retRv, ev_for, ev_for0, ev_for2, ev_for1, ev_forr, ev_sc, ev_scv, ev_ex, ev_exv, ev_lsI, ev_lsIv, ev_lsL, ev_lsLv, ev_lsR, ev_lsRv, ev_ciI, ev_clL, ev_lvI0, ev_lvL0, ev_lvR0, ev_inc0, ev_s1_0, ev_s2_0, ev_lvI1, ev_lvL1, ev_lvR1, ev_inc1, ev_s1_1i, ev_s2_1i, ev_s1_1r, ev_s2_1r, ev_s1_1u, ev_s2_1u, ev_s1_1s, ev_s2_1s, ev_lvI2, ev_lvL2, ev_lvR2, ev_inc2, ev_s1_2i, ev_s2_2i, ev_s1_2r, ev_s2_2r, ev_s1_2u, ev_s2_2u, ev_s1_2s, ev_s2_2s, ev_lvI3, ev_lvL3, ev_lvR3, ev_inc3, ev_s1_3i, ev_s2_3i, ev_s1_3r, ev_s2_3r, ev_s1_3u, ev_s2_3u, ev_s1_3s, ev_s2_3s, ev_lvI4, ev_lvL4, ev_lvR4, ev_inc4, ev_s1_4i, ev_s2_4i, ev_s1_4r, ev_s2_4r, ev_s1_4u, ev_s2_4u, ev_s1_4s, ev_s2_4s, ev_lvI5, ev_lvL5, ev_lvR5, ev_inc5, ev_s1_5i, ev_s2_5i, ev_s1_5r, ev_s2_5r, ev_s1_5u, ev_s2_5u, ev_s1_5s, ev_s2_5s, ev_lvI6, ev_lvL6, ev_lvR6, ev_inc6, ev_s1_6i, ev_s2_6i, ev_s1_6r, ev_s2_6r, ev_s1_6u, ev_s2_6u, ev_s1_6s, ev_s2_6s, ev_lvI7, ev_lvL7, ev_lvR7, ev_inc7, ev_s1_7i, ev_s2_7i, ev_s1_7r, ev_s2_7r, ev_s1_7u, ev_s2_7u, ev_s1_7s, ev_s2_7s, ev_lvI8, ev_lvL8, ev_lvR8, ev_inc8, ev_s1_8i, ev_s2_8i, ev_s1_8r, ev_s2_8r, ev_s1_8u, ev_s2_8u, ev_s1_8s, ev_s2_8s, ev_lvI9, ev_lvL9, ev_lvR9, ev_inc9, ev_s1_9i, ev_s2_9i, ev_s1_9r, ev_s2_9r, ev_s1_9u, ev_s2_9u, ev_s1_9s, ev_s2_9s, ev_lvI10, ev_lvL10, ev_lvR10, ev_inc10, ev_s1_10i, ev_s2_10i, ev_s1_10r, ev_s2_10r, ev_s1_10u, ev_s2_10u, ev_s1_10s, ev_s2_10s, ev_lvI11, ev_lvL11, ev_lvR11, ev_inc11, ev_s1_11i, ev_s2_11i, ev_s1_11r, ev_s2_11r, ev_s1_11u, ev_s2_11u, ev_s1_11s, ev_s2_11s, ev_lvI12, ev_lvL12, ev_lvR12, ev_inc12, ev_s1_12i, ev_s2_12i, ev_s1_12r, ev_s2_12r, ev_s1_12u, ev_s2_12u, ev_s1_12s, ev_s2_12s, ev_lvI13, ev_lvL13, ev_lvR13, ev_inc13, ev_s1_13i, ev_s2_13i, ev_s1_13r, ev_s2_13r, ev_s1_13u, ev_s2_13u, ev_s1_13s, ev_s2_13s, ev_cut1_0, ev_cut1_1, ev_cut2_0, ev_cut2_1, ev_cut2_2, ev_cut3_0, ev_cut3_1, ev_cut3_2, ev_cut3_3, ev_cut4_0, ev_cut4_1, ev_cut4_2, ev_cut4_3, ev_cut4_4, ev_cut5_0, ev_cut5_1, ev_cut5_2, ev_cut5_3, ev_cut5_4, ev_cut5_5, ev_cut6_0, ev_cut6_1, ev_cut6_2, ev_cut6_3, ev_cut6_4, ev_cut6_5, ev_cut6_6, ev_cut7_0, ev_cut7_1, ev_cut7_2, ev_cut7_3, ev_cut7_4, ev_cut7_5, ev_cut7_6, ev_cut7_7, ev_cut8_0, ev_cut8_1, ev_cut8_2, ev_cut8_3, ev_cut8_4, ev_cut8_5, ev_cut8_6, ev_cut8_7, ev_cut8_8, ev_cut9_0, ev_cut9_1, ev_cut9_2, ev_cut9_3, ev_cut9_4, ev_cut9_5, ev_cut9_6, ev_cut9_7, ev_cut9_8, ev_cut9_9, ev_cut10_0, ev_cut10_1, ev_cut10_2, ev_cut10_3, ev_cut10_4, ev_cut10_5, ev_cut10_6, ev_cut10_7, ev_cut10_8, ev_cut10_9, ev_cut10_10, ev_cut11_0, ev_cut11_1, ev_cut11_2, ev_cut11_3, ev_cut11_4, ev_cut11_5, ev_cut11_6, ev_cut11_7, ev_cut11_8, ev_cut11_9, ev_cut11_10, ev_cut11_11, ev_cut12_0, ev_cut12_1, ev_cut12_2, ev_cut12_3, ev_cut12_4, ev_cut12_5, ev_cut12_6, ev_cut12_7, ev_cut12_8, ev_cut12_9, ev_cut12_10, ev_cut12_11, ev_cut12_12, ev_cut13_0, ev_cut13_1, ev_cut13_2, ev_cut13_3, ev_cut13_4, ev_cut13_5, ev_cut13_6, ev_cut13_7, ev_cut13_8, ev_cut13_9, ev_cut13_10, ev_cut13_11, ev_cut13_12, ev_cut13_13, ev_bin, ev_addI, ev_addIv, ev_subI, ev_subIv, ev_mulI, ev_mulIv, ev_andI, ev_andIv, ev_orI, ev_orIv, ev_xorI, ev_xorIv, ev_shlI, ev_shlIv, ev_shrI, ev_shrIv, ev_ushrI, ev_ushrIv, ev_addL, ev_addLv, ev_subL, ev_subLv, ev_mulL, ev_mulLv, ev_andL, ev_andLv, ev_orL, ev_orLv, ev_shlL, ev_shlLv, ev_divI, ev_divIv, ev_remI, ev_remIv, ev_divL, ev_divLv, ev_remL, ev_remLv, ev_eqI, ev_eqIv, ev_eqL, ev_eqLv, ev_eq0, ev_eq0v, ev_neI, ev_neIv, ev_neL, ev_neLv, ev_ne0, ev_ne0v, ev_ltI, ev_ltIv, ev_ltL, ev_ltLv, ev_lt0, ev_lt0v, ev_geI, ev_geIv, ev_geL, ev_geLv, ev_ge0, ev_ge0v, ev_gtI, ev_gtIv, ev_gtL, ev_gtLv, ev_gt0, ev_gt0v, ev_leI, ev_leIv, ev_leL, ev_leLv, ev_le0, ev_le0v, ev_i2L, ev_i2Lv, ev_l2I, ev_l2Iv, ev_nul, ev_nuls, ev_nuln, ev_andX, ev_andXt, ev_andXf, ev_andXd, ev_orX, ev_orXt, ev_orXf, ev_orXd, ev_notX, ev_notXv, ev_notd, ev_iteX, ev_iteXt, ev_iteXf, ev_iteXd, ev_getI, ev_getIv, ev_getL, ev_getLv, ev_getR, ev_getRv, ev_rsz, ev_rszv, ev_aldI, ev_aldIq, ev_aldIv, ev_aldL, ev_aldLq, ev_aldLv, ev_aldR, ev_aldRq, ev_aldRv, ev_aln, ev_putI, ev_putIq, ev_putIv, ev_putZ, ev_putZq, ev_putZv, ev_putL, ev_putLq, ev_putLv, ev_putR, ev_putRq, ev_putRv, ev_astI, ev_astIq, ev_astIi, ev_astIv, ev_astZ, ev_astZq, ev_astZi, ev_astZv, ev_astL, ev_astLq, ev_astLi, ev_astLv, ev_astR, ev_upd, ev_updq, ev_updv, ev_ina, ev_inaq, ev_inav, ev_rzs, ev_rzsq, ev_rzsv, ev_sw, ev_swx, ev_swr, ev_agN, ev_agC, ev_agi, ev_agl, ev_agr, ev_ag2, ev_calX, ev_calv, ev_decI, ev_decL, ev_decR, ev_calS, ev_clsv, ev_clsd, ev_ck0, ev_ck1, ev_cs1, ev_ck2, ev_cs2, ev_ck3, ev_cs3, ev_ck4, ev_cs4, ev_ck5, ev_cs5, ev_finV, ev_finI, ev_finL, ev_finR, ev_fin1, ev_fin0, ev_finZ, ev_newO, ev_newv, ev_newR, ev_newA, ev_newAv, ev_oi, ev_oiv, Option.bind_some, Option.bind_none, Option.bind_fun_some, reduceCtorEq, reduceIte, List.take_zero, Sum.inl.injEq, Sum.inr.injEq, Option.some.injEq, Prod.mk.injEq, Nat.reduceEqDiff, Nat.reduceAdd, Nat.reduceSub, Nat.reduceMul, Nat.reduceLT, Nat.reduceLeDiff, decide_true, decide_false, decide_eq_true_eq, decide_eq_false_iff_not, Bool.and_true, Bool.true_and, Bool.and_false, Bool.false_and, Bool.false_or, Bool.or_false, Bool.true_or, Bool.or_true, Bool.and_self, Bool.or_self, true_or, or_true, and_true, true_and, false_and, and_false, false_or, or_false, not_true_eq_false, not_false_eq_true, Bool.not_true, Bool.not_false, Bool.false_eq_true, and_self, ite_true, ite_false, eq_self, hT_sR, hP_sR, hI_sR, hL_sR, hN_sR, hR_sRu, hT_sI, hP_sI, hR_sI, hL_sI, hN_sI, hI_sI, hT_sL, hP_sL, hR_sL, hI_sL, hN_sL, hL_sL, hT_sP, hR_sP, hI_sP, hL_sP, hN_sP, hP_sP, u1_app, u2_app, hT_sA, hP_sA, hR_sA, hL_sA, hN_sA, hI_sA, sI_sA, sI_sI, sA_sA, sA_sI, hT_sLA, hP_sLA, hR_sLA, hI_sLA, hN_sLA, hL_sLA, sL_sLA, iI_lt2, iI_le2, iI_eq2, iI_lt0, iI_0lt, iI_le0, iI_0le, iI_eq0, iI_eq1, iI_nat2, iI_add, iI_sub, iI_mul, Int.toNat_natCast, if_pos, if_neg, y0, y1, y2, y3, y4, y5, y6, y7, y8, y9, y10, y11, y12, y13, y14, y15, y16, y17, y18, y19, y20, y21, y22, y23, y24, y25, y26, y27, y28, y29, y30, y31, y32, y33, y34, b1, c0, c1, c2, c3, c4, d1, ← eE]
    simp -implicitDefEqProofs (disch := omega) only [bind_ite, ev_itea, ev_seq, ev_seq0, ev_seq1, ev_seq2, ev_seqr, ev_if, ev_ift, ev_iff, ev_ifd, ev_ife, ev_ifet, ev_ifef, ev_ifed, ev_skip, ev_cont, ev_brk, ev_retV, ev_retI, ev_retIv, ev_retL, ev_retLv, ev_retR, ev_retRv, ev_for, ev_for0, ev_for2, ev_for1, ev_forr, ev_sc, ev_scv, ev_ex, ev_exv, ev_lsI, ev_lsIv, ev_lsL, ev_lsLv, ev_lsR, ev_lsRv, ev_ciI, ev_clL, ev_lvI0, ev_lvL0, ev_lvR0, ev_inc0, ev_s1_0, ev_s2_0, ev_lvI1, ev_lvL1, ev_lvR1, ev_inc1, ev_s1_1i, ev_s2_1i, ev_s1_1r, ev_s2_1r, ev_s1_1u, ev_s2_1u, ev_s1_1s, ev_s2_1s, ev_lvI2, ev_lvL2, ev_lvR2, ev_inc2, ev_s1_2i, ev_s2_2i, ev_s1_2r, ev_s2_2r, ev_s1_2u, ev_s2_2u, ev_s1_2s, ev_s2_2s, ev_lvI3, ev_lvL3, ev_lvR3, ev_inc3, ev_s1_3i, ev_s2_3i, ev_s1_3r, ev_s2_3r, ev_s1_3u, ev_s2_3u, ev_s1_3s, ev_s2_3s, ev_lvI4, ev_lvL4, ev_lvR4, ev_inc4, ev_s1_4i, ev_s2_4i, ev_s1_4r, ev_s2_4r, ev_s1_4u, ev_s2_4u, ev_s1_4s, ev_s2_4s, ev_lvI5, ev_lvL5, ev_lvR5, ev_inc5, ev_s1_5i, ev_s2_5i, ev_s1_5r, ev_s2_5r, ev_s1_5u, ev_s2_5u, ev_s1_5s, ev_s2_5s, ev_lvI6, ev_lvL6, ev_lvR6, ev_inc6, ev_s1_6i, ev_s2_6i, ev_s1_6r, ev_s2_6r, ev_s1_6u, ev_s2_6u, ev_s1_6s, ev_s2_6s, ev_lvI7, ev_lvL7, ev_lvR7, ev_inc7, ev_s1_7i, ev_s2_7i, ev_s1_7r, ev_s2_7r, ev_s1_7u, ev_s2_7u, ev_s1_7s, ev_s2_7s, ev_lvI8, ev_lvL8, ev_lvR8, ev_inc8, ev_s1_8i, ev_s2_8i, ev_s1_8r, ev_s2_8r, ev_s1_8u, ev_s2_8u, ev_s1_8s, ev_s2_8s, ev_lvI9, ev_lvL9, ev_lvR9, ev_inc9, ev_s1_9i, ev_s2_9i, ev_s1_9r, ev_s2_9r, ev_s1_9u, ev_s2_9u, ev_s1_9s, ev_s2_9s, ev_lvI10, ev_lvL10, ev_lvR10, ev_inc10, ev_s1_10i, ev_s2_10i, ev_s1_10r, ev_s2_10r, ev_s1_10u, ev_s2_10u, ev_s1_10s, ev_s2_10s, ev_lvI11, ev_lvL11, ev_lvR11, ev_inc11, ev_s1_11i, ev_s2_11i, ev_s1_11r, ev_s2_11r, ev_s1_11u, ev_s2_11u, ev_s1_11s, ev_s2_11s, ev_lvI12, ev_lvL12, ev_lvR12, ev_inc12, ev_s1_12i, ev_s2_12i, ev_s1_12r, ev_s2_12r, ev_s1_12u, ev_s2_12u, ev_s1_12s, ev_s2_12s, ev_lvI13, ev_lvL13, ev_lvR13, ev_inc13, ev_s1_13i, ev_s2_13i, ev_s1_13r, ev_s2_13r, ev_s1_13u, ev_s2_13u, ev_s1_13s, ev_s2_13s, ev_cut1_0, ev_cut1_1, ev_cut2_0, ev_cut2_1, ev_cut2_2, ev_cut3_0, ev_cut3_1, ev_cut3_2, ev_cut3_3, ev_cut4_0, ev_cut4_1, ev_cut4_2, ev_cut4_3, ev_cut4_4, ev_cut5_0, ev_cut5_1, ev_cut5_2, ev_cut5_3, ev_cut5_4, ev_cut5_5, ev_cut6_0, ev_cut6_1, ev_cut6_2, ev_cut6_3, ev_cut6_4, ev_cut6_5, ev_cut6_6, ev_cut7_0, ev_cut7_1, ev_cut7_2, ev_cut7_3, ev_cut7_4, ev_cut7_5, ev_cut7_6, ev_cut7_7, ev_cut8_0, ev_cut8_1, ev_cut8_2, ev_cut8_3, ev_cut8_4, ev_cut8_5, ev_cut8_6, ev_cut8_7, ev_cut8_8, ev_cut9_0, ev_cut9_1, ev_cut9_2, ev_cut9_3, ev_cut9_4, ev_cut9_5, ev_cut9_6, ev_cut9_7, ev_cut9_8, ev_cut9_9, ev_cut10_0, ev_cut10_1, ev_cut10_2, ev_cut10_3, ev_cut10_4, ev_cut10_5, ev_cut10_6, ev_cut10_7, ev_cut10_8, ev_cut10_9, ev_cut10_10, ev_cut11_0, ev_cut11_1, ev_cut11_2, ev_cut11_3, ev_cut11_4, ev_cut11_5, ev_cut11_6, ev_cut11_7, ev_cut11_8, ev_cut11_9, ev_cut11_10, ev_cut11_11, ev_cut12_0, ev_cut12_1, ev_cut12_2, ev_cut12_3, ev_cut12_4, ev_cut12_5, ev_cut12_6, ev_cut12_7, ev_cut12_8, ev_cut12_9, ev_cut12_10, ev_cut12_11, ev_cut12_12, ev_cut13_0, ev_cut13_1, ev_cut13_2, ev_cut13_3, ev_cut13_4, ev_cut13_5, ev_cut13_6, ev_cut13_7, ev_cut13_8, ev_cut13_9, ev_cut13_10, ev_cut13_11, ev_cut13_12, ev_cut13_13, ev_bin, ev_addI, ev_addIv, ev_subI, ev_subIv, ev_mulI, ev_mulIv, ev_andI, ev_andIv, ev_orI, ev_orIv, ev_xorI, ev_xorIv, ev_shlI, ev_shlIv, ev_shrI, ev_shrIv, ev_ushrI, ev_ushrIv, ev_addL, ev_addLv, ev_subL, ev_subLv, ev_mulL, ev_mulLv, ev_andL, ev_andLv, ev_orL, ev_orLv, ev_shlL, ev_shlLv, ev_divI, ev_divIv, ev_remI, ev_remIv, ev_divL, ev_divLv, ev_remL, ev_remLv, ev_eqI, ev_eqIv, ev_eqL, ev_eqLv, ev_eq0, ev_eq0v, ev_neI, ev_neIv, ev_neL, ev_neLv, ev_ne0, ev_ne0v, ev_ltI, ev_ltIv, ev_ltL, ev_ltLv, ev_lt0, ev_lt0v, ev_geI, ev_geIv, ev_geL, ev_geLv, ev_ge0, ev_ge0v, ev_gtI, ev_gtIv, ev_gtL, ev_gtLv, ev_gt0, ev_gt0v, ev_leI, ev_leIv, ev_leL, ev_leLv, ev_le0, ev_le0v, ev_i2L, ev_i2Lv, ev_l2I, ev_l2Iv, ev_nul, ev_nuls, ev_nuln, ev_andX, ev_andXt, ev_andXf, ev_andXd, ev_orX, ev_orXt, ev_orXf, ev_orXd, ev_notX, ev_notXv, ev_notd, ev_iteX, ev_iteXt, ev_iteXf, ev_iteXd, ev_getI, ev_getIv, ev_getL, ev_getLv, ev_getR, ev_getRv, ev_rsz, ev_rszv, ev_aldI, ev_aldIq, ev_aldIv, ev_aldL, ev_aldLq, ev_aldLv, ev_aldR, ev_aldRq, ev_aldRv, ev_aln, ev_putI, ev_putIq, ev_putIv, ev_putZ, ev_putZq, ev_putZv, ev_putL, ev_putLq, ev_putLv, ev_putR, ev_putRq, ev_putRv, ev_astI, ev_astIq, ev_astIi, ev_astIv, ev_astZ, ev_astZq, ev_astZi, ev_astZv, ev_astL, ev_astLq, ev_astLi, ev_astLv, ev_astR, ev_upd, ev_updq, ev_updv, ev_ina, ev_inaq, ev_inav, ev_rzs, ev_rzsq, ev_rzsv, ev_sw, ev_swx, ev_swr, ev_agN, ev_agC, ev_agi, ev_agl, ev_agr, ev_ag2, ev_calX, ev_calv, ev_decI, ev_decL, ev_decR, ev_calS, ev_clsv, ev_clsd, ev_ck0, ev_ck1, ev_cs1, ev_ck2, ev_cs2, ev_ck3, ev_cs3, ev_ck4, ev_cs4, ev_ck5, ev_cs5, ev_finV, ev_finI, ev_finL, ev_finR, ev_fin1, ev_fin0, ev_finZ, ev_newO, ev_newv, ev_newR, ev_newA, ev_newAv, ev_oi, ev_oiv, Option.bind_some, Option.bind_none, Option.bind_fun_some, reduceCtorEq, reduceIte, List.take_zero, Sum.inl.injEq, Sum.inr.injEq, Option.some.injEq, Prod.mk.injEq, Nat.reduceEqDiff, Nat.reduceAdd, Nat.reduceSub, Nat.reduceMul, Nat.reduceLT, Nat.reduceLeDiff, decide_true, decide_false, decide_eq_true_eq, decide_eq_false_iff_not, Bool.and_true, Bool.true_and, Bool.and_false, Bool.false_and, Bool.false_or, Bool.or_false, Bool.true_or, Bool.or_true, Bool.and_self, Bool.or_self, true_or, or_true, and_true, true_and, false_and, and_false, false_or, or_false, not_true_eq_false, not_false_eq_true, Bool.not_true, Bool.not_false, Bool.false_eq_true, and_self, ite_true, ite_false, eq_self, hT_sR, hP_sR, hI_sR, hL_sR, hN_sR, hR_sRu, hT_sI, hP_sI, hR_sI, hL_sI, hN_sI, hI_sI, hT_sL, hP_sL, hR_sL, hI_sL, hN_sL, hL_sL, hT_sP, hR_sP, hI_sP, hL_sP, hN_sP, hP_sP, u1_app, u2_app, hT_sA, hP_sA, hR_sA, hL_sA, hN_sA, hI_sA, sI_sA, sI_sI, sA_sA, sA_sI, hT_sLA, hP_sLA, hR_sLA, hI_sLA, hN_sLA, hL_sLA, sL_sLA, iI_lt2, iI_le2, iI_eq2, iI_lt0, iI_0lt, iI_le0, iI_0le, iI_eq0, iI_eq1, iI_nat2, iI_add, iI_sub, iI_mul, Int.toNat_natCast, if_pos, if_neg, y0, y1, y2, y3, y4, y5, y6, y7, y8, y9, y10, y11, y12, y13, y14, y15, y16, y17, y18, y19, y20, y21, y22, y23, y24, y25, y26, y27, y28, y29, y30, y31, y32, y33, y34, w0, w1, w2]
  · rw [eF2, eF1, eF0]
    simp only [hI_sR]
    rw [eE]
    simp only [hI_sI, u2_app, true_and]
    rw [if_neg (fun z => k14 z), if_neg (fun z => k13 z), d2.2.2.2.2.1 11 (by decide), eC4, eC3, eC2, eC1, eC0]
    simp only [hI_sR]
    rw [b2.2.2.2.2.1 11 (by simp), eA]
    rfl
  · have o : ∀ q, q ∉ [72, 73, 74] → hR hF2 q = hR hD q := fun q hq => by
      have h72 : q ≠ 72 := fun z => hq (by rw [z]; decide)
      have h73 : q ≠ 73 := fun z => hq (by rw [z]; decide)
      have h74 : q ≠ 74 := fun z => hq (by rw [z]; decide)
      rw [eF2, hR_sRu, u1_ne h74, eF1, hR_sRu, u1_ne h73, eF0, hR_sRu, u1_ne h72, eE]
      simp only [hR_sI]
    have oC : ∀ q, q ∉ [43, 44, 45, 37, 46] → hR hC4 q = hR hB q := fun q hq => by
      have h43 : q ≠ 43 := fun z => hq (by rw [z]; decide)
      have h44 : q ≠ 44 := fun z => hq (by rw [z]; decide)
      have h45 : q ≠ 45 := fun z => hq (by rw [z]; decide)
      have h37 : q ≠ 37 := fun z => hq (by rw [z]; decide)
      have h46 : q ≠ 46 := fun z => hq (by rw [z]; decide)
      rw [eC4, hR_sRu, u1_ne h46, eC3, hR_sRu, u1_ne h37, eC2, hR_sRu, u1_ne h45, eC1, hR_sRu, u1_ne h44, eC0, hR_sRu, u1_ne h43]
    have oD : ∀ q, q ∉ stR 49 → hR hD q = hR hC4 q := d2.2.2.2.2.2
    have fo : ∀ q, q ∉ [72, 73, 74] → q ∉ stR 49 → q ∉ [43, 44, 45, 37, 46] → hR hF2 q = hR hB q := fun q q1 q2 q3 => by rw [o q q1, oD q q2, oC q q3]
    have cl : ∀ q, q ∉ [72, 73, 74] → q ∉ stR 49 → q ∈ [43, 44, 45, 37, 46] → hR hF2 q = [] := fun q q1 q2 q3 => by
      rw [o q q1, oD q q2, eC4, eC3, eC2, eC1, eC0]
      simp only [hR_sRu, u1_app]
      simp only [List.mem_cons, List.not_mem_nil, or_false] at q3
      rcases q3 with z | z | z | z | z <;> subst z <;> rfl
    refine ⟨fun q hq => ?_, by rw [fo 32 (by decide) (by decide) (by decide)]; exact b4, fun q hq => ?_, fun q hq => ?_, fun k k1 k2 => ?_, ?_, ?_⟩
    · simp only [List.mem_cons, List.not_mem_nil, or_false] at hq
      rcases hq with z | z | z | z | z | z | z | z | z | z | z | z | z | z | z | z | z | z | z <;> subst z
      · rw [fo 28 (by decide) (by decide) (by decide)]; exact b3 1 (by decide) (by decide) (by decide)
      · rw [fo 29 (by decide) (by decide) (by decide)]; exact b3 2 (by decide) (by decide) (by decide)
      · rw [fo 30 (by decide) (by decide) (by decide)]; exact b3 3 (by decide) (by decide) (by decide)
      · rw [fo 31 (by decide) (by decide) (by decide)]; exact b3 4 (by decide) (by decide) (by decide)
      · rw [fo 33 (by decide) (by decide) (by decide)]; exact b3 6 (by decide) (by decide) (by decide)
      · rw [fo 34 (by decide) (by decide) (by decide)]; exact b3 7 (by decide) (by decide) (by decide)
      · rw [fo 35 (by decide) (by decide) (by decide)]; exact b3 8 (by decide) (by decide) (by decide)
      · exact cl 37 (by decide) (by decide) (by decide)
      · exact cl 43 (by decide) (by decide) (by decide)
      · exact cl 44 (by decide) (by decide) (by decide)
      · exact cl 45 (by decide) (by decide) (by decide)
      · exact cl 46 (by decide) (by decide) (by decide)
      · rw [o 50 (by decide)]; exact d3 1 (by decide) (by decide)
      · rw [o 51 (by decide)]; exact d3 2 (by decide) (by decide)
      · rw [o 52 (by decide)]; exact d3 3 (by decide) (by decide)
      · rw [o 53 (by decide)]; exact d3 4 (by decide) (by decide)
      · rw [o 54 (by decide)]; exact d3 5 (by decide) (by decide)
      · rw [o 55 (by decide)]; exact d3 6 (by decide) (by decide)
      · rw [o 56 (by decide)]; exact d3 7 (by decide) (by decide)
    · simp only [List.mem_cons, List.not_mem_nil, or_false] at hq
      rcases hq with z | z | z <;> subst z
      · rw [o 57 (by decide)]; exact d4 8 (by decide) (by decide)
      · rw [o 58 (by decide)]; exact d4 9 (by decide) (by decide)
      · rw [o 59 (by decide)]; exact d4 10 (by decide) (by decide)
    · simp only [List.mem_cons, List.not_mem_nil, or_false] at hq
      rw [eF2, eF1, eF0]
      simp only [hR_sRu, u1_app]
      rcases hq with z | z | z <;> subst z <;> rfl
    · rw [eF2, eF1, eF0]
      simp only [hI_sR]
      rw [eE]
      simp only [hI_sI, u2_app]
      rw [if_neg (by omega), if_neg (by omega)]
      exact d5 k k1 k2
    · rw [eF2, eF1, eF0]
      simp only [hI_sR]
      rw [eE]
      simp only [hI_sI, u2_app]
      rfl
    · rw [eF2, eF1, eF0]
      simp only [hI_sR]
      rw [eE]
      simp only [hI_sI, u2_app]
      rfl
