/-! ===== L2: undo over the invariant ===== -/
theorem C_undo0 {h : AH} (g : Gr h) {pn : Nat} (hpn : pn < 20) (h13 : hI h 11 13 = iI ((pn : Nat) : Int)) (h14 : hI h 11 14 = iI 0) (G : List Int) (hG : hR h 2 = mI G) (hG6 : G.length = 6) : mX11_undo [.ref 0] h = some (some (.int (iI 0)), sR h 2 (mI (bump G 4))) := by
  have er : mX11_refuse [.ref 0, .int (iI 4)] h = some (some (.int (iI (-1))), sR h 2 (mI (bump G 4))) := c_refuse g G 4 (by decide) hG hG6
  have z20 : ((pn : Int) + 20 - 1) % 20 = (((pn + 19) % 20 : Nat) : Int) := by omega
  simp -implicitDefEqProofs (disch := omega) only [bind_ite, ev_itea, ev_seq, ev_seq0, ev_seq1, ev_seq2, ev_seqr, ev_if, ev_ift, ev_iff, ev_ifd, ev_ife, ev_ifet, ev_ifef, ev_ifed, ev_skip, ev_cont, ev_brk, ev_retV, ev_retI, ev_retIv, ev_retL, ev_retLv, ev_retR, ev_retRv, ev_for, ev_for0, ev_for2, ev_for1, ev_forr, ev_sc, ev_scv, ev_ex, ev_exv, ev_lsI, ev_lsIv, ev_lsL, ev_lsLv, ev_lsR, ev_lsRv, ev_ciI, ev_clL, ev_lvI0, ev_lvL0, ev_lvR0, ev_inc0, ev_s1_0, ev_s2_0, ev_lvI1, ev_lvL1, ev_lvR1, ev_inc1, ev_s1_1i, ev_s2_1i, ev_s1_1r, ev_s2_1r, ev_s1_1u, ev_s2_1u, ev_s1_1s, ev_s2_1s, ev_lvI2, ev_lvL2, ev_lvR2, ev_inc2, ev_s1_2i, ev_s2_2i, ev_s1_2r, ev_s2_2r, ev_s1_2u, ev_s2_2u, ev_s1_2s, ev_s2_2s, ev_lvI3, ev_lvL3, ev_lvR3, ev_inc3, ev_s1_3i, ev_s2_3i, ev_s1_3r, ev_s2_3r, ev_s1_3u, ev_s2_3u, ev_s1_3s, ev_s2_3s, ev_lvI4, ev_lvL4, ev_lvR4, ev_inc4, ev_s1_4i, ev_s2_4i, ev_s1_4r, ev_s2_4r, ev_s1_4u, ev_s2_4u, ev_s1_4s, ev_s2_4s, ev_lvI5, ev_lvL5, ev_lvR5, ev_inc5, ev_s1_5i, ev_s2_5i, ev_s1_5r, ev_s2_5r, ev_s1_5u, ev_s2_5u, ev_s1_5s, ev_s2_5s, ev_lvI6, ev_lvL6, ev_lvR6, ev_inc6, ev_s1_6i, ev_s2_6i, ev_s1_6r, ev_s2_6r, ev_s1_6u, ev_s2_6u, ev_s1_6s, ev_s2_6s, ev_lvI7, ev_lvL7, ev_lvR7, ev_inc7, ev_s1_7i, ev_s2_7i, ev_s1_7r, ev_s2_7r, ev_s1_7u, ev_s2_7u, ev_s1_7s, ev_s2_7s, ev_lvI8, ev_lvL8, ev_lvR8, ev_inc8, ev_s1_8i, ev_s2_8i, ev_s1_8r, ev_s2_8r, ev_s1_8u, ev_s2_8u, ev_s1_8s, ev_s2_8s, ev_lvI9, ev_lvL9, ev_lvR9, ev_inc9, ev_s1_9i, ev_s2_9i, ev_s1_9r, ev_s2_9r, ev_s1_9u, ev_s2_9u, ev_s1_9s, ev_s2_9s, ev_lvI10, ev_lvL10, ev_lvR10, ev_inc10, ev_s1_10i, ev_s2_10i, ev_s1_10r, ev_s2_10r, ev_s1_10u, ev_s2_10u, ev_s1_10s, ev_s2_10s, ev_lvI11, ev_lvL11, ev_lvR11, ev_inc11, ev_s1_11i, ev_s2_11i, ev_s1_11r, ev_s2_11r, ev_s1_11u, ev_s2_11u, ev_s1_11s, ev_s2_11s, ev_lvI12, ev_lvL12, ev_lvR12, ev_inc12, ev_s1_12i, ev_s2_12i, ev_s1_12r, ev_s2_12r, ev_s1_12u, ev_s2_12u, ev_s1_12s, ev_s2_12s, ev_lvI13, ev_lvL13, ev_lvR13, ev_inc13, ev_s1_13i, ev_s2_13i, ev_s1_13r, ev_s2_13r, ev_s1_13u, ev_s2_13u, ev_s1_13s, ev_s2_13s, ev_cut1_0, ev_cut1_1, ev_cut2_0, ev_cut2_1, ev_cut2_2, ev_cut3_0, ev_cut3_1, ev_cut3_2, ev_cut3_3, ev_cut4_0, ev_cut4_1, ev_cut4_2, ev_cut4_3, ev_cut4_4, ev_cut5_0, ev_cut5_1, ev_cut5_2, ev_cut5_3, ev_cut5_4, ev_cut5_5, ev_cut6_0, ev_cut6_1, ev_cut6_2, ev_cut6_3, ev_cut6_4, ev_cut6_5, ev_cut6_6, ev_cut7_0, ev_cut7_1, ev_cut7_2, ev_cut7_3, ev_cut7_4, ev_cut7_5, ev_cut7_6, ev_cut7_7, ev_cut8_0, ev_cut8_1, ev_cut8_2, ev_cut8_3, ev_cut8_4, ev_cut8_5, ev_cut8_6, ev_cut8_7, ev_cut8_8, ev_cut9_0, ev_cut9_1, ev_cut9_2, ev_cut9_3, ev_cut9_4, ev_cut9_5, ev_cut9_6, ev_cut9_7, ev_cut9_8, ev_cut9_9, ev_cut10_0, ev_cut10_1, ev_cut10_2, ev_cut10_3, ev_cut10_4, ev_cut10_5, ev_cut10_6, ev_cut10_7, ev_cut10_8, ev_cut10_9, ev_cut10_10, ev_cut11_0, ev_cut11_1, ev_cut11_2, ev_cut11_3, ev_cut11_4, ev_cut11_5, ev_cut11_6, ev_cut11_7, ev_cut11_8, ev_cut11_9, ev_cut11_10, ev_cut11_11, ev_cut12_0, ev_cut12_1, ev_cut12_2, ev_cut12_3, ev_cut12_4, ev_cut12_5, ev_cut12_6, ev_cut12_7, ev_cut12_8, ev_cut12_9, ev_cut12_10, ev_cut12_11, ev_cut12_12, ev_cut13_0, ev_cut13_1, ev_cut13_2, ev_cut13_3, ev_cut13_4, ev_cut13_5, ev_cut13_6, ev_cut13_7, ev_cut13_8, ev_cut13_9, ev_cut13_10, ev_cut13_11, ev_cut13_12, ev_cut13_13, ev_bin, ev_addI, ev_addIv, ev_subI, ev_subIv, ev_mulI, ev_mulIv, ev_andI, ev_andIv, ev_orI, ev_orIv, ev_xorI, ev_xorIv, ev_shlI, ev_shlIv, ev_shrI, ev_shrIv, ev_ushrI, ev_ushrIv, ev_addL, ev_addLv, ev_subL, ev_subLv, ev_mulL, ev_mulLv, ev_andL, ev_andLv, ev_orL, ev_orLv, ev_shlL, ev_shlLv, ev_divI, ev_divIv, ev_remI, ev_remIv, ev_divL, ev_divLv, ev_remL, ev_remLv, ev_eqI, ev_eqIv, ev_eqL, ev_eqLv, ev_eq0, ev_eq0v, ev_neI, ev_neIv, ev_neL, ev_neLv, ev_ne0, ev_ne0v, ev_ltI, ev_ltIv, ev_ltL, ev_ltLv, ev_lt0, ev_lt0v, ev_geI, ev_geIv, ev_geL, ev_geLv, ev_ge0, ev_ge0v, ev_gtI, ev_gtIv, ev_gtL, ev_gtLv, ev_gt0, ev_gt0v, ev_leI, ev_leIv, ev_leL, ev_leLv, ev_le0, ev_le0v, ev_i2L, ev_i2Lv, ev_l2I, ev_l2Iv, ev_nul, ev_nuls, ev_nuln, ev_andX, ev_andXt, ev_andXf, ev_andXd, ev_orX, ev_orXt, ev_orXf, ev_orXd, ev_notX, ev_notXv, ev_notd, ev_iteX, ev_iteXt, ev_iteXf, ev_iteXd, ev_getI, ev_getIv, ev_getL, ev_getLv, ev_getR, ev_getRv, ev_rsz, ev_rszv, ev_aldI, ev_aldIq, ev_aldIv, ev_aldL, ev_aldLq, ev_aldLv, ev_aldR, ev_aldRq, ev_aldRv, ev_aln, ev_putI, ev_putIq, ev_putIv, ev_putZ, ev_putZq, ev_putZv, ev_putL, ev_putLq, ev_putLv, ev_putR, ev_putRq, ev_putRv, ev_astI, ev_astIq, ev_astIi, ev_astIv, ev_astZ, ev_astZq, ev_astZi, ev_astZv, ev_astL, ev_astLq, ev_astLi, ev_astLv, ev_astR, ev_upd, ev_updq, ev_updv, ev_ina, ev_inaq, ev_inav, ev_rzs, ev_rzsq, ev_rzsv, ev_sw, ev_swx, ev_swr, ev_agN, ev_agC, ev_agi, ev_agl, ev_agr, ev_ag2, ev_calX, ev_calv, ev_decI, ev_decL, ev_decR, ev_calS, ev_clsv, ev_clsd, ev_ck0, ev_ck1, ev_cs1, ev_ck2, ev_cs2, ev_ck3, ev_cs3, ev_ck4, ev_cs4, ev_ck5, ev_cs5, ev_finV, ev_finI, ev_finL, ev_finR, ev_fin1, ev_fin0, ev_finZ, ev_newO, ev_newv, ev_newR, ev_newA, ev_newAv, ev_oi, ev_oiv, Option.bind_some, Option.bind_none, Option.bind_fun_some, reduceCtorEq, reduceIte, List.take_zero, Sum.inl.injEq, Sum.inr.injEq, Option.some.injEq, Prod.mk.injEq, Nat.reduceEqDiff, Nat.reduceAdd, Nat.reduceSub, Nat.reduceMul, Nat.reduceLT, Nat.reduceLeDiff, decide_true, decide_false, decide_eq_true_eq, decide_eq_false_iff_not, Bool.and_true, Bool.true_and, Bool.and_false, Bool.false_and, Bool.false_or, Bool.or_false, Bool.true_or, Bool.or_true, Bool.and_self, Bool.or_self, true_or, or_true, and_true, true_and, false_and, and_false, false_or, or_false, not_true_eq_false, not_false_eq_true, Bool.not_true, Bool.not_false, Bool.false_eq_true, and_self, ite_true, ite_false, eq_self, hT_sR, hP_sR, hI_sR, hL_sR, hN_sR, hR_sRu, hT_sI, hP_sI, hR_sI, hL_sI, hN_sI, hI_sI, hT_sL, hP_sL, hR_sL, hI_sL, hN_sL, hL_sL, hT_sP, hR_sP, hI_sP, hL_sP, hN_sP, hP_sP, u1_app, u2_app, hT_sA, hP_sA, hR_sA, hL_sA, hN_sA, hI_sA, sI_sA, sI_sI, sA_sA, sA_sI, hT_sLA, hP_sLA, hR_sLA, hI_sLA, hN_sLA, hL_sLA, sL_sLA, eX11_undo, bX11_undo, eX10_goBack, bX10_goBack, gT0 g, gT1 g, gT2 g, gT3 g, gT4 g, gT5 g, gT6 g, gT7 g, gT8 g, gT9 g, gT10 g, gT11 g, gT12 g, gT13 g, gT14 g, gT15 g, gT16 g, gT17 g, gT18 g, gT19 g, gT20 g, gT21 g, gT22 g, gT23 g, gT24 g, gT25 g, gT26 g, gT27 g, gT28 g, gT29 g, gT30 g, gT31 g, gT32 g, gT33 g, gT34 g, gT35 g, gT36 g, gT37 g, gT38 g, gT39 g, gT40 g, gT41 g, gT42 g, gT43 g, gT44 g, gT45 g, gT46 g, gT47 g, gT48 g, gT49 g, gT50 g, gT51 g, gT52 g, gT53 g, gT54 g, gT55 g, gT56 g, gT57 g, gT58 g, gT59 g, gT60 g, gT61 g, gT62 g, gT63 g, gT64 g, gT65 g, gT66 g, gT67 g, gT68 g, gT69 g, gT70 g, gT71 g, gT72 g, gT73 g, gT74 g, gT75 g, gT76 g, gT77 g, gT78 g, gT79 g, gT80 g, gT81 g, gT82 g, gT83 g, gT84 g, gT85 g, gT86 g, gT87 g, gT88 g, gT89 g, gT90 g, gT91 g, gT92 g, gT93 g, gT94 g, gP0_0 g, gP0_1 g, gP0_2 g, gP0_3 g, gP0_4 g, gP0_5 g, gP3_0 g, gP3_1 g, gP3_2 g, gP3_3 g, gP8_0 g, gP8_1 g, gP11_1 g, gP11_2 g, gP11_3 g, gP11_4 g, gP11_5 g, gP11_6 g, gP11_7 g, gP11_8 g, gP11_9 g, gP11_10 g, gP11_11 g, gP11_12 g, gP11_16 g, gP11_17 g, gP11_18 g, gP12_0 g, gP12_1 g, gP12_2 g, gP12_3 g, gP12_4 g, gP14_0 g, gP14_1 g, gP17_0 g, gP17_1 g, gP20_0 g, gP20_1 g, gP24_0 g, gP24_1 g, gP27_0 g, gP27_1 g, gP27_2 g, gP27_3 g, gP27_4 g, gP27_5 g, gP27_6 g, gP27_7 g, gP36_0 g, gP36_1 g, gP36_2 g, gP36_3 g, gP36_4 g, gP36_5 g, gP49_0 g, gP49_1 g, gP49_2 g, gP49_3 g, gP49_4 g, gP49_5 g, gP49_6 g, gP49_7 g, gP49_8 g, gP49_9 g, gP60_0 g, gP60_1 g, gP60_2 g, gP60_3 g, gP60_4 g, gP60_5 g, gP60_6 g, gP60_7 g, gP60_8 g, gP60_9 g, gP75_0 g, gP75_1 g, gP75_2 g, gP79_0 g, gP79_1 g, gP79_2 g, gP83_0 g, gP83_1 g, gP83_2 g, gP83_3 g, gP83_4 g, gP85_0 g, gP85_1 g, gP88_0 g, gP88_1 g, gP91_0 g, gP91_1 g, iI_lt2, iI_le2, iI_eq2, iI_lt0, iI_0lt, iI_le0, iI_0le, iI_eq0, iI_eq1, iI_nat2, iI_add, iI_sub, iI_mul, Int.toNat_natCast, if_pos, if_neg, h13, h14, iI_div, rem_nn, z20, er]
theorem M_undo0 {h : AH} (g : Gr h) (h39 : hI h 95 39 = iI 0) (G : List Int) (hG : RefM G h) : mX12_undo [.ref 95] h = some (some (.int (iI 0)), sI h 108 4 (iI (G.getD 4 0 + 1))) := by
  have er : mX12_refuses [.ref 95, .int (iI 4)] h = some (some (.int (iI (-1))), sI h 108 4 (iI (G.getD 4 0 + 1))) := m_refuses g G 4 (by decide) hG
  have m0 : ¬ (0 : Int) ≤ -1 := by decide
  simp -implicitDefEqProofs (disch := omega) only [bind_ite, ev_itea, ev_seq, ev_seq0, ev_seq1, ev_seq2, ev_seqr, ev_if, ev_ift, ev_iff, ev_ifd, ev_ife, ev_ifet, ev_ifef, ev_ifed, ev_skip, ev_cont, ev_brk, ev_retV, ev_retI, ev_retIv, ev_retL, ev_retLv, ev_retR, ev_retRv, ev_for, ev_for0, ev_for2, ev_for1, ev_forr, ev_sc, ev_scv, ev_ex, ev_exv, ev_lsI, ev_lsIv, ev_lsL, ev_lsLv, ev_lsR, ev_lsRv, ev_ciI, ev_clL, ev_lvI0, ev_lvL0, ev_lvR0, ev_inc0, ev_s1_0, ev_s2_0, ev_lvI1, ev_lvL1, ev_lvR1, ev_inc1, ev_s1_1i, ev_s2_1i, ev_s1_1r, ev_s2_1r, ev_s1_1u, ev_s2_1u, ev_s1_1s, ev_s2_1s, ev_lvI2, ev_lvL2, ev_lvR2, ev_inc2, ev_s1_2i, ev_s2_2i, ev_s1_2r, ev_s2_2r, ev_s1_2u, ev_s2_2u, ev_s1_2s, ev_s2_2s, ev_lvI3, ev_lvL3, ev_lvR3, ev_inc3, ev_s1_3i, ev_s2_3i, ev_s1_3r, ev_s2_3r, ev_s1_3u, ev_s2_3u, ev_s1_3s, ev_s2_3s, ev_lvI4, ev_lvL4, ev_lvR4, ev_inc4, ev_s1_4i, ev_s2_4i, ev_s1_4r, ev_s2_4r, ev_s1_4u, ev_s2_4u, ev_s1_4s, ev_s2_4s, ev_lvI5, ev_lvL5, ev_lvR5, ev_inc5, ev_s1_5i, ev_s2_5i, ev_s1_5r, ev_s2_5r, ev_s1_5u, ev_s2_5u, ev_s1_5s, ev_s2_5s, ev_lvI6, ev_lvL6, ev_lvR6, ev_inc6, ev_s1_6i, ev_s2_6i, ev_s1_6r, ev_s2_6r, ev_s1_6u, ev_s2_6u, ev_s1_6s, ev_s2_6s, ev_lvI7, ev_lvL7, ev_lvR7, ev_inc7, ev_s1_7i, ev_s2_7i, ev_s1_7r, ev_s2_7r, ev_s1_7u, ev_s2_7u, ev_s1_7s, ev_s2_7s, ev_lvI8, ev_lvL8, ev_lvR8, ev_inc8, ev_s1_8i, ev_s2_8i, ev_s1_8r, ev_s2_8r, ev_s1_8u, ev_s2_8u, ev_s1_8s, ev_s2_8s, ev_lvI9, ev_lvL9, ev_lvR9, ev_inc9, ev_s1_9i, ev_s2_9i, ev_s1_9r, ev_s2_9r, ev_s1_9u, ev_s2_9u, ev_s1_9s, ev_s2_9s, ev_lvI10, ev_lvL10, ev_lvR10, ev_inc10, ev_s1_10i, ev_s2_10i, ev_s1_10r, ev_s2_10r, ev_s1_10u, ev_s2_10u, ev_s1_10s, ev_s2_10s, ev_lvI11, ev_lvL11, ev_lvR11, ev_inc11, ev_s1_11i, ev_s2_11i, ev_s1_11r, ev_s2_11r, ev_s1_11u, ev_s2_11u, ev_s1_11s, ev_s2_11s, ev_lvI12, ev_lvL12, ev_lvR12, ev_inc12, ev_s1_12i, ev_s2_12i, ev_s1_12r, ev_s2_12r, ev_s1_12u, ev_s2_12u, ev_s1_12s, ev_s2_12s, ev_lvI13, ev_lvL13, ev_lvR13, ev_inc13, ev_s1_13i, ev_s2_13i, ev_s1_13r, ev_s2_13r, ev_s1_13u, ev_s2_13u, ev_s1_13s, ev_s2_13s, ev_cut1_0, ev_cut1_1, ev_cut2_0, ev_cut2_1, ev_cut2_2, ev_cut3_0, ev_cut3_1, ev_cut3_2, ev_cut3_3, ev_cut4_0, ev_cut4_1, ev_cut4_2, ev_cut4_3, ev_cut4_4, ev_cut5_0, ev_cut5_1, ev_cut5_2, ev_cut5_3, ev_cut5_4, ev_cut5_5, ev_cut6_0, ev_cut6_1, ev_cut6_2, ev_cut6_3, ev_cut6_4, ev_cut6_5, ev_cut6_6, ev_cut7_0, ev_cut7_1, ev_cut7_2, ev_cut7_3, ev_cut7_4, ev_cut7_5, ev_cut7_6, ev_cut7_7, ev_cut8_0, ev_cut8_1, ev_cut8_2, ev_cut8_3, ev_cut8_4, ev_cut8_5, ev_cut8_6, ev_cut8_7, ev_cut8_8, ev_cut9_0, ev_cut9_1, ev_cut9_2, ev_cut9_3, ev_cut9_4, ev_cut9_5, ev_cut9_6, ev_cut9_7, ev_cut9_8, ev_cut9_9, ev_cut10_0, ev_cut10_1, ev_cut10_2, ev_cut10_3, ev_cut10_4, ev_cut10_5, ev_cut10_6, ev_cut10_7, ev_cut10_8, ev_cut10_9, ev_cut10_10, ev_cut11_0, ev_cut11_1, ev_cut11_2, ev_cut11_3, ev_cut11_4, ev_cut11_5, ev_cut11_6, ev_cut11_7, ev_cut11_8, ev_cut11_9, ev_cut11_10, ev_cut11_11, ev_cut12_0, ev_cut12_1, ev_cut12_2, ev_cut12_3, ev_cut12_4, ev_cut12_5, ev_cut12_6, ev_cut12_7, ev_cut12_8, ev_cut12_9, ev_cut12_10, ev_cut12_11, ev_cut12_12, ev_cut13_0, ev_cut13_1, ev_cut13_2, ev_cut13_3, ev_cut13_4, ev_cut13_5, ev_cut13_6, ev_cut13_7, ev_cut13_8, ev_cut13_9, ev_cut13_10, ev_cut13_11, ev_cut13_12, ev_cut13_13, ev_bin, ev_addI, ev_addIv, ev_subI, ev_subIv, ev_mulI, ev_mulIv, ev_andI, ev_andIv, ev_orI, ev_orIv, ev_xorI, ev_xorIv, ev_shlI, ev_shlIv, ev_shrI, ev_shrIv, ev_ushrI, ev_ushrIv, ev_addL, ev_addLv, ev_subL, ev_subLv, ev_mulL, ev_mulLv, ev_andL, ev_andLv, ev_orL, ev_orLv, ev_shlL, ev_shlLv, ev_divI, ev_divIv, ev_remI, ev_remIv, ev_divL, ev_divLv, ev_remL, ev_remLv, ev_eqI, ev_eqIv, ev_eqL, ev_eqLv, ev_eq0, ev_eq0v, ev_neI, ev_neIv, ev_neL, ev_neLv, ev_ne0, ev_ne0v, ev_ltI, ev_ltIv, ev_ltL, ev_ltLv, ev_lt0, ev_lt0v, ev_geI, ev_geIv, ev_geL, ev_geLv, ev_ge0, ev_ge0v, ev_gtI, ev_gtIv, ev_gtL, ev_gtLv, ev_gt0, ev_gt0v, ev_leI, ev_leIv, ev_leL, ev_leLv, ev_le0, ev_le0v, ev_i2L, ev_i2Lv, ev_l2I, ev_l2Iv, ev_nul, ev_nuls, ev_nuln, ev_andX, ev_andXt, ev_andXf, ev_andXd, ev_orX, ev_orXt, ev_orXf, ev_orXd, ev_notX, ev_notXv, ev_notd, ev_iteX, ev_iteXt, ev_iteXf, ev_iteXd, ev_getI, ev_getIv, ev_getL, ev_getLv, ev_getR, ev_getRv, ev_rsz, ev_rszv, ev_aldI, ev_aldIq, ev_aldIv, ev_aldL, ev_aldLq, ev_aldLv, ev_aldR, ev_aldRq, ev_aldRv, ev_aln, ev_putI, ev_putIq, ev_putIv, ev_putZ, ev_putZq, ev_putZv, ev_putL, ev_putLq, ev_putLv, ev_putR, ev_putRq, ev_putRv, ev_astI, ev_astIq, ev_astIi, ev_astIv, ev_astZ, ev_astZq, ev_astZi, ev_astZv, ev_astL, ev_astLq, ev_astLi, ev_astLv, ev_astR, ev_upd, ev_updq, ev_updv, ev_ina, ev_inaq, ev_inav, ev_rzs, ev_rzsq, ev_rzsv, ev_sw, ev_swx, ev_swr, ev_agN, ev_agC, ev_agi, ev_agl, ev_agr, ev_ag2, ev_calX, ev_calv, ev_decI, ev_decL, ev_decR, ev_calS, ev_clsv, ev_clsd, ev_ck0, ev_ck1, ev_cs1, ev_ck2, ev_cs2, ev_ck3, ev_cs3, ev_ck4, ev_cs4, ev_ck5, ev_cs5, ev_finV, ev_finI, ev_finL, ev_finR, ev_fin1, ev_fin0, ev_finZ, ev_newO, ev_newv, ev_newR, ev_newA, ev_newAv, ev_oi, ev_oiv, Option.bind_some, Option.bind_none, Option.bind_fun_some, reduceCtorEq, reduceIte, List.take_zero, Sum.inl.injEq, Sum.inr.injEq, Option.some.injEq, Prod.mk.injEq, Nat.reduceEqDiff, Nat.reduceAdd, Nat.reduceSub, Nat.reduceMul, Nat.reduceLT, Nat.reduceLeDiff, decide_true, decide_false, decide_eq_true_eq, decide_eq_false_iff_not, Bool.and_true, Bool.true_and, Bool.and_false, Bool.false_and, Bool.false_or, Bool.or_false, Bool.true_or, Bool.or_true, Bool.and_self, Bool.or_self, true_or, or_true, and_true, true_and, false_and, and_false, false_or, or_false, not_true_eq_false, not_false_eq_true, Bool.not_true, Bool.not_false, Bool.false_eq_true, and_self, ite_true, ite_false, eq_self, hT_sR, hP_sR, hI_sR, hL_sR, hN_sR, hR_sRu, hT_sI, hP_sI, hR_sI, hL_sI, hN_sI, hI_sI, hT_sL, hP_sL, hR_sL, hI_sL, hN_sL, hL_sL, hT_sP, hR_sP, hI_sP, hL_sP, hN_sP, hP_sP, u1_app, u2_app, hT_sA, hP_sA, hR_sA, hL_sA, hN_sA, hI_sA, sI_sA, sI_sI, sA_sA, sA_sI, hT_sLA, hP_sLA, hR_sLA, hI_sLA, hN_sLA, hL_sLA, sL_sLA, eX12_undo, bX12_undo, gT95 g, gT96 g, gT97 g, gT98 g, gT99 g, gT100 g, gT101 g, gT102 g, gT103 g, gT104 g, gT105 g, gT106 g, gT107 g, gT108 g, gT109 g, gT110 g, gT111 g, gT112 g, gT113 g, gT114 g, gT115 g, gT116 g, gT117 g, gT118 g, gT119 g, gT120 g, gT121 g, gT122 g, gT123 g, gT124 g, gT125 g, gT126 g, gT127 g, gT128 g, gT129 g, gT130 g, gT131 g, gT132 g, gT133 g, gT134 g, gT135 g, gT136 g, gP95_0 g, gP95_14 g, gP95_15 g, gP95_16 g, gP95_17 g, gP95_18 g, gP95_22 g, gP95_23 g, gP95_24 g, gP95_25 g, gP95_26 g, gP95_29 g, gP95_33 g, gP95_34 g, gP95_35 g, gP95_36 g, gP95_38 g, gP95_41 g, gP95_42 g, gP95_43 g, gP95_44 g, gP95_45 g, gP95_46 g, gP95_47 g, gP95_48 g, gP95_49 g, gP95_50 g, gP95_52 g, gP95_54 g, gP95_55 g, gP95_56 g, gP95_57 g, gP95_58 g, gP95_60 g, gP95_61 g, gP95_62 g, gP95_63 g, gP95_64 g, gP95_66 g, gP95_67 g, gP95_68 g, iI_lt2, iI_le2, iI_eq2, iI_lt0, iI_0lt, iI_le0, iI_0le, iI_eq0, iI_eq1, iI_nat2, iI_add, iI_sub, iI_mul, Int.toNat_natCast, if_pos, if_neg, h39, er, m0]
theorem byS_le (C : Nat → List Int) : ∀ n m, n ≤ m → byS C n ≤ byS C m
  | n, 0, h => by
    have e : n = 0 := by omega
    rw [e]; exact Nat.le_refl _
  | n, m + 1, h => by
    by_cases z : n = m + 1
    · rw [z]; exact Nat.le_refl _
    · have := byS_le C n m (by omega)
      show byS C n ≤ byS C m + (C m).length
      omega
theorem ExK.by {a b : KT} (E : ExK a b) : byN a ≤ byN b := by
  unfold byN
  rw [← byS_congr (C := kC a) (C' := kC b) (kP a) (fun p hp => (E.2.2.2.1 p hp).symm)]
  exact byS_le _ _ _ E.1
theorem NB.ex {n : Nat} {T : List Int} {K K' : KT} {cf : List (List Int)} {PF : List Int} (B : NB n T K cf PF) (E : ExK K' K) : NB (n + 1) T K' cf PF := by
  obtain ⟨b1, b2, b3, b4, b5, b6, b7⟩ := B
  have e1 := E.1
  have e2 := (pre_take E.2.1).2
  have e3 := E.by
  have e4 := E.kl
  exact ⟨by omega, by omega, by omega, by omega, by omega, by omega, by omega⟩
theorem Kx_back {Ks : Nat → KT} {K : KT} {v : Nat} (i : Nat) (hi : i ≤ v) : Kx Ks (Ks v) v i = Kx Ks K (v + 1) i := by
  unfold Kx
  rw [if_pos (show i < v + 1 by omega)]
  by_cases z : i < v
  · rw [if_pos z]
  · have e : i = v := by omega
    rw [if_neg z, e]
theorem ChK.back {Ks : Nat → KT} {K : KT} {v : Nat} (H : ChK Ks K (v + 1)) : ChK Ks (Ks v) v := fun i hi => by
  rw [Kx_back (K := K) i (by omega), Kx_back (K := K) (i + 1) (by omega)]
  exact H i (by omega)
theorem ChK.past {Ks : Nat → KT} {K : KT} {v : Nat} (H : ChK Ks K (v + 1)) (i : Nat) (hi : i < v) : ExK (Ks i) (Ks v) := by
  have := (H.back.now hi).1
  exact this
theorem RgA.back {h : AH} {K K' : KT} {s : Nat} (R : RgA h K s) (E : ExK K' K) : RgA h K' s := by
  obtain ⟨A, B, C, a1, a2, a3, a4, a5, a6, v⟩ := R
  obtain ⟨e1, e2⟩ := pre_take E.2.2.2.2.1
  refine ⟨A, B, C, a1, a2, a3, a4, a5, a6, fun i h1 h2 => ?_⟩
  have e : (kK K').getD i (0, 0, 0) = (kK K).getD i (0, 0, 0) := by
    conv => lhs; rw [e1]
    rw [List.getD_eq_getElem?_getD, List.getElem?_take, if_pos h1, List.getD_eq_getElem?_getD]
  rw [e]
  exact v i (by omega) h2
theorem S_undo {n : Nat} {h : AH} (I : Inv n h) (hn : n < 512) : StpI n h mX11_undo mX12_undo [] := by
  obtain ⟨r, r', nu, ts, idm, K, cf, PF, Ks, u, m, pn, bk, nv, tv, a, M, T, G, MT, st, x, fk, fp, C, L, D, E, P, V⟩ := I
  have X := C.1
  have g := X.1
  have ok := X.2.2.2.2.2.1
  have H := C.2.2.2.2.2.2.1
  have G6 := P.2.2.2.2.2.2.2.2.2.1
  have hx := P.2.2.2.2.2.2.2.2.2.2.1
  have ch := P.2.2.2.2.1
  have o2 := P.2.2.1
  have rr := C.2.1
  have x2 := X.2.1
  cases u with
  | zero =>
    have q1 := C_undo0 g H.2.1 H.2.2.2.2.1 H.2.2.2.2.2.1 G L.2.1 G6
    obtain ⟨C1, D1, E1, I2⟩ := refuse2 (by decide) C L D E P V 4 (by decide)
    have t1 := M_undo0 C1.1.1 D1.2.2.1.2.1 G E1.2.1
    exact ⟨_, _, _, q1, t1, C1.1.1, I2⟩
  | succ v =>
    have ex := (ch.now (i := v) (by omega)).1
    have hul := ok.2.2.2.2.2.2.2.1
    obtain ⟨h1, q1, f1, k1, X', H', T'⟩ := C_undo X H C.2.2.2.2.2.2.2.1 (by have := o2.1; omega) (P.2.2.2.1 v (by omega)).1 ex (fun i hi => ch.past i hi)
    have A1 : AgRe h h1 := f1.re (by simp)
    have D1 := D.re A1
    have E1 := E.re A1
    have nr : ∀ q, q = 1 ∨ q = 2 ∨ q = 4 ∨ q = 32 ∨ q = 33 ∨ q = 35 ∨ q = 72 ∨ q = 73 ∨ q = 74 ∨ q = 80 ∨ q = r' + 11 → hR h1 q = hR h q := fun q hq => f1.2.2.2.2.2 q (fun z => by
      unfold stR at z
      simp only [List.mem_cons, List.not_mem_nil, or_false] at z
      omega)
    obtain ⟨c1, c2, ⟨F, F1, F2⟩, c4, c5, c6, c7, c8, c9⟩ := C
    have C1 : CK h1 r r' nu ts idm (Ks v) cf PF Ks v m ((pn + 19) % 20) := by
      refine ⟨X', c2, ⟨F, by rw [nr _ (by omega)]; exact F1, F2⟩, ?_, c5.rows (nr 32 (by omega)) (nr 33 (by omega)), ?_, H', T', ?_⟩
      · unfold WdC
        rw [nr 4 (by omega)]
        exact c4
      · rw [nr 35 (by omega)]
        exact c6
      · have z := (c9.rows (h' := h1) (fun q hq => nr q (by simp only [List.mem_cons, List.not_mem_nil, or_false] at hq; omega))).back ex
        rw [sv0_Kx, ← Kx_back (v := v) 0 (by omega), ← sv0_Kx] at z
        exact z
    have i0 : hI h1 0 = hI h 0 := f1.2.2.2.2.1 0 (by decide)
    have L1 : CL h1 T G MT st x fk fp := by
      unfold CL
      rw [nr 1 (by omega), nr 2 (by omega), nr 80 (by omega), i0, k1 15 (by decide) (by decide)]
      exact L
    obtain ⟨h2, t1, f2, e9, hi⟩ := m_undo C1.1.1 D1.2.2.1
    have A2 : AgCl h1 h2 := f2.cl (by decide)
    have n2 : ∀ q, q ≠ 109 → q ≠ 95 → hI h2 q = hI h1 q := fun q z1 z2 => f2.2.2.2.2.1 q (by simpa using z1) z2
    have n5 : ∀ k, k ≠ 37 → k ≠ 39 → hI h2 95 k = hI h1 95 k := fun k z1 z2 => f2.2.2.2.2.2.1 k (by simp; omega)
    have ek : ∀ (W : Nat → Int32) (q : Nat), q ∈ [109, 113, 114, 115, 116, 117, 118, 119] → hI (sA h2 109 W) q = hI (sA h1 109 W) q := fun W q hq => by
      rw [hI_sA, hI_sA]
      by_cases z : q = 109
      · rw [z, u1_eq, u1_eq]
      · rw [u1_ne z, u1_ne z]
        simp only [List.mem_cons, List.not_mem_nil, or_false] at hq
        exact n2 q (by omega) (by omega)
    have ev : ∀ q, q ∈ [109, 113, 114, 115, 116, 117, 118, 119] → hI h2 q = hI (sA h1 109 (M v)) q := fun q hq => by
      rw [hI_sA]
      by_cases z : q = 109
      · rw [z, u1_eq, e9]
      · rw [u1_ne z]
        simp only [List.mem_cons, List.not_mem_nil, or_false] at hq
        exact n2 q (by omega) (by omega)
    obtain ⟨d1, d2⟩ := D1.2.2.2.2 v (by omega)
    refine ⟨_, h1, h2, q1, t1, C1.1.1, r, r', nu, ts, idm, Ks v, cf, PF, Ks, v, m, (pn + 19) % 20, bk, nv, tv, a, M, T, G, MT, st, x, fk, fp, C1.m A2, L1.m A2, ⟨?_, d1.eq ev, hi, d2.eq (ev 109 (by decide)), fun i hi => ?_⟩, ?_, ?_, V⟩
    · have c1 := D1.1
      unfold RuM CdM at c1 ⊢
      rw [n2 97 (by decide) (by decide), n2 98 (by decide) (by decide), n2 99 (by decide) (by decide), n2 100 (by decide) (by decide), n2 101 (by decide) (by decide), n5 13 (by decide) (by decide)]
      exact c1
    · have d := D1.2.2.2.2 i (by omega)
      exact ⟨d.1.eq (ek _), d.2.eq (ek _ 109 (by decide))⟩
    · unfold ML TapeM RefM MetM
      rw [n2 96 (by decide) (by decide), n2 108 (by decide) (by decide), n2 134 (by decide) (by decide), n2 135 (by decide) (by decide), n5 1 (by decide) (by decide), n5 65 (by decide) (by decide), n5 32 (by decide) (by decide), n5 10 (by decide) (by decide), n5 11 (by decide) (by decide), f2.2.2.2.2.2.2 95 (by decide)]
      exact E1
    · obtain ⟨p1, p2, p3, p4, p5, p6, p7, p8, p9, p10, p11, p12⟩ := P
      refine ⟨p1, p2, (p4 v (by omega)).2, fun i hi => p4 i (by omega), ch.back, fun z => absurd (p6 z).2.2 (by omega), p7, p8, p9, p10, p11, p12.ex ex⟩
