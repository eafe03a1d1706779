/-! ===== L2: goesOn() of the reference does the machine's step ===== -/
theorem GoR.v01 {h h' : AH} {T : List Int} {b : Bk} {v : Int} {r : MRs} (R : GoR h h' T b v r) : v = 0 ∨ v = 1 := by
  obtain ⟨-, R⟩ := R
  rcases r with t | (d | x)
  · exact Or.inr R.2.1
  · exact Or.inl R.1
  · exact Or.inl R.2
theorem m_goesOn {h : AH} (g : Gr h) {T : List Int} {b : Bk} {m k o : Nat} {c : List (Int × Int)} {ops : List Int} {F : FRm} {fr : List FRm} (P : PaM h T b (k, o, c, ops, F :: fr, true)) (I : MIv (k, o, c, ops, F :: fr, true)) (B : BgI (k, o, c, ops, F :: fr, true)) (V : PaV m (k, o, c, ops, F :: fr, true)) (hk : k ≤ 1600) (h31 : hI h 95 31 = iI 1) :
    ∃ h' v, mX12_goesOn [.ref 95] h = some (some (.int (iI v)), h') ∧ GoR h h' T b v (mGo (tkT T) k o c ops F fr) := by
  have z10 : ¬ (1 : Int) = 0 := by decide
  have z01 : 0 < (1 : Int) := by decide
  obtain ⟨v, q, hkm⟩ := V
  have v : OpV ops := v
  have qF := q F List.mem_cons_self
  have i2 : o + 1 = ops.count 43 + (fr.length + 1) := I.2.1
  have i3 : o ≤ 7 := I.2.2.1
  have kF : kdF F := I.2.2.2.2 F List.mem_cons_self
  unfold kdF at kF
  have hfr : fr.length < 20 := by omega
  by_cases n4 : (tkT T k).1 = 4
  · obtain ⟨h', x1, x2, x3, x4⟩ := P.lx4 g n4
    have g' := x2.gr g
    have x1' : mX12_lex [.ref 95] h = some (none, h') := x1
    have er : mGo (tkT T) k o c ops F fr = .inr (.inr (1, (tkT T k).2.1)) := by unfold mGo; rw [if_pos n4]
    rw [er]
    refine ⟨h', 0, ?_, x2, x3, rfl⟩
    rw [eX12_goesOn, go_is]
    simp -implicitDefEqProofs (disch := omega) only [bind_ite, ev_itea, ev_seq, ev_seq0, ev_seq1, ev_seq2, ev_seqr, ev_if, ev_ift, ev_iff, ev_ifd, ev_ife, ev_ifet, ev_ifef, ev_ifed, ev_skip, ev_cont, ev_brk, ev_retV, ev_retI, ev_retIv, ev_retL, ev_retLv, ev_retR, ev_retRv, ev_for, ev_for0, ev_for2, ev_for1, ev_forr, ev_sc, ev_scv, ev_ex, ev_exv, ev_lsI, ev_lsIv, ev_lsL, ev_lsLv, ev_lsR, ev_lsRv, ev_ciI, ev_clL, ev_lvI0, ev_lvL0, ev_lvR0, ev_inc0, ev_s1_0, ev_s2_0, ev_lvI1, ev_lvL1, ev_lvR1, ev_inc1, ev_s1_1i, ev_s2_1i, ev_s1_1r, ev_s2_1r, ev_s1_1u, ev_s2_1u, ev_s1_1s, ev_s2_1s, ev_lvI2, ev_lvL2, ev_lvR2, ev_inc2, ev_s1_2i, ev_s2_2i, ev_s1_2r, ev_s2_2r, ev_s1_2u, ev_s2_2u, ev_s1_2s, ev_s2_2s, ev_lvI3, ev_lvL3, ev_lvR3, ev_inc3, ev_s1_3i, ev_s2_3i, ev_s1_3r, ev_s2_3r, ev_s1_3u, ev_s2_3u, ev_s1_3s, ev_s2_3s, ev_lvI4, ev_lvL4, ev_lvR4, ev_inc4, ev_s1_4i, ev_s2_4i, ev_s1_4r, ev_s2_4r, ev_s1_4u, ev_s2_4u, ev_s1_4s, ev_s2_4s, ev_lvI5, ev_lvL5, ev_lvR5, ev_inc5, ev_s1_5i, ev_s2_5i, ev_s1_5r, ev_s2_5r, ev_s1_5u, ev_s2_5u, ev_s1_5s, ev_s2_5s, ev_lvI6, ev_lvL6, ev_lvR6, ev_inc6, ev_s1_6i, ev_s2_6i, ev_s1_6r, ev_s2_6r, ev_s1_6u, ev_s2_6u, ev_s1_6s, ev_s2_6s, ev_lvI7, ev_lvL7, ev_lvR7, ev_inc7, ev_s1_7i, ev_s2_7i, ev_s1_7r, ev_s2_7r, ev_s1_7u, ev_s2_7u, ev_s1_7s, ev_s2_7s, ev_lvI8, ev_lvL8, ev_lvR8, ev_inc8, ev_s1_8i, ev_s2_8i, ev_s1_8r, ev_s2_8r, ev_s1_8u, ev_s2_8u, ev_s1_8s, ev_s2_8s, ev_lvI9, ev_lvL9, ev_lvR9, ev_inc9, ev_s1_9i, ev_s2_9i, ev_s1_9r, ev_s2_9r, ev_s1_9u, ev_s2_9u, ev_s1_9s, ev_s2_9s, ev_lvI10, ev_lvL10, ev_lvR10, ev_inc10, ev_s1_10i, ev_s2_10i, ev_s1_10r, ev_s2_10r, ev_s1_10u, ev_s2_10u, ev_s1_10s, ev_s2_10s, ev_lvI11, ev_lvL11, ev_lvR11, ev_inc11, ev_s1_11i, ev_s2_11i, ev_s1_11r, ev_s2_11r, ev_s1_11u, ev_s2_11u, ev_s1_11s, ev_s2_11s, ev_lvI12, ev_lvL12, ev_lvR12, ev_inc12, ev_s1_12i, ev_s2_12i, ev_s1_12r, ev_s2_12r, ev_s1_12u, ev_s2_12u, ev_s1_12s, ev_s2_12s, ev_lvI13, ev_lvL13, ev_lvR13, ev_inc13, ev_s1_13i, ev_s2_13i, ev_s1_13r, ev_s2_13r, ev_s1_13u, ev_s2_13u, ev_s1_13s, ev_s2_13s, ev_cut1_0, ev_cut1_1, ev_cut2_0, ev_cut2_1, ev_cut2_2, ev_cut3_0, ev_cut3_1, ev_cut3_2, ev_cut3_3, ev_cut4_0, ev_cut4_1, ev_cut4_2, ev_cut4_3, ev_cut4_4, ev_cut5_0, ev_cut5_1, ev_cut5_2, ev_cut5_3, ev_cut5_4, ev_cut5_5, ev_cut6_0, ev_cut6_1, ev_cut6_2, ev_cut6_3, ev_cut6_4, ev_cut6_5, ev_cut6_6, ev_cut7_0, ev_cut7_1, ev_cut7_2, ev_cut7_3, ev_cut7_4, ev_cut7_5, ev_cut7_6, ev_cut7_7, ev_cut8_0, ev_cut8_1, ev_cut8_2, ev_cut8_3, ev_cut8_4, ev_cut8_5, ev_cut8_6, ev_cut8_7, ev_cut8_8, ev_cut9_0, ev_cut9_1, ev_cut9_2, ev_cut9_3, ev_cut9_4, ev_cut9_5, ev_cut9_6, ev_cut9_7, ev_cut9_8, ev_cut9_9, ev_cut10_0, ev_cut10_1, ev_cut10_2, ev_cut10_3, ev_cut10_4, ev_cut10_5, ev_cut10_6, ev_cut10_7, ev_cut10_8, ev_cut10_9, ev_cut10_10, ev_cut11_0, ev_cut11_1, ev_cut11_2, ev_cut11_3, ev_cut11_4, ev_cut11_5, ev_cut11_6, ev_cut11_7, ev_cut11_8, ev_cut11_9, ev_cut11_10, ev_cut11_11, ev_cut12_0, ev_cut12_1, ev_cut12_2, ev_cut12_3, ev_cut12_4, ev_cut12_5, ev_cut12_6, ev_cut12_7, ev_cut12_8, ev_cut12_9, ev_cut12_10, ev_cut12_11, ev_cut12_12, ev_cut13_0, ev_cut13_1, ev_cut13_2, ev_cut13_3, ev_cut13_4, ev_cut13_5, ev_cut13_6, ev_cut13_7, ev_cut13_8, ev_cut13_9, ev_cut13_10, ev_cut13_11, ev_cut13_12, ev_cut13_13, ev_bin, ev_addI, ev_addIv, ev_subI, ev_subIv, ev_mulI, ev_mulIv, ev_andI, ev_andIv, ev_orI, ev_orIv, ev_xorI, ev_xorIv, ev_shlI, ev_shlIv, ev_shrI, ev_shrIv, ev_ushrI, ev_ushrIv, ev_addL, ev_addLv, ev_subL, ev_subLv, ev_mulL, ev_mulLv, ev_andL, ev_andLv, ev_orL, ev_orLv, ev_shlL, ev_shlLv, ev_divI, ev_divIv, ev_remI, ev_remIv, ev_divL, ev_divLv, ev_remL, ev_remLv, ev_eqI, ev_eqIv, ev_eqL, ev_eqLv, ev_eq0, ev_eq0v, ev_neI, ev_neIv, ev_neL, ev_neLv, ev_ne0, ev_ne0v, ev_ltI, ev_ltIv, ev_ltL, ev_ltLv, ev_lt0, ev_lt0v, ev_geI, ev_geIv, ev_geL, ev_geLv, ev_ge0, ev_ge0v, ev_gtI, ev_gtIv, ev_gtL, ev_gtLv, ev_gt0, ev_gt0v, ev_leI, ev_leIv, ev_leL, ev_leLv, ev_le0, ev_le0v, ev_i2L, ev_i2Lv, ev_l2I, ev_l2Iv, ev_nul, ev_nuls, ev_nuln, ev_andX, ev_andXt, ev_andXf, ev_andXd, ev_orX, ev_orXt, ev_orXf, ev_orXd, ev_notX, ev_notXv, ev_notd, ev_iteX, ev_iteXt, ev_iteXf, ev_iteXd, ev_getI, ev_getIv, ev_getL, ev_getLv, ev_getR, ev_getRv, ev_rsz, ev_rszv, ev_aldI, ev_aldIq, ev_aldIv, ev_aldL, ev_aldLq, ev_aldLv, ev_aldR, ev_aldRq, ev_aldRv, ev_aln, ev_putI, ev_putIq, ev_putIv, ev_putZ, ev_putZq, ev_putZv, ev_putL, ev_putLq, ev_putLv, ev_putR, ev_putRq, ev_putRv, ev_astI, ev_astIq, ev_astIi, ev_astIv, ev_astZ, ev_astZq, ev_astZi, ev_astZv, ev_astL, ev_astLq, ev_astLi, ev_astLv, ev_astR, ev_upd, ev_updq, ev_updv, ev_ina, ev_inaq, ev_inav, ev_rzs, ev_rzsq, ev_rzsv, ev_sw, ev_swx, ev_swr, ev_agN, ev_agC, ev_agi, ev_agl, ev_agr, ev_ag2, ev_calX, ev_calv, ev_decI, ev_decL, ev_decR, ev_calS, ev_clsv, ev_clsd, ev_ck0, ev_ck1, ev_cs1, ev_ck2, ev_cs2, ev_ck3, ev_cs3, ev_ck4, ev_cs4, ev_ck5, ev_cs5, ev_finV, ev_finI, ev_finL, ev_finR, ev_fin1, ev_fin0, ev_finZ, ev_newO, ev_newv, ev_newR, ev_newA, ev_newAv, ev_oi, ev_oiv, Option.bind_some, Option.bind_none, Option.bind_fun_some, reduceCtorEq, reduceIte, List.take_zero, Sum.inl.injEq, Sum.inr.injEq, Option.some.injEq, Prod.mk.injEq, Nat.reduceEqDiff, Nat.reduceAdd, Nat.reduceSub, Nat.reduceMul, Nat.reduceLT, Nat.reduceLeDiff, decide_true, decide_false, decide_eq_true_eq, decide_eq_false_iff_not, Bool.and_true, Bool.true_and, Bool.and_false, Bool.false_and, Bool.false_or, Bool.or_false, Bool.true_or, Bool.or_true, Bool.and_self, Bool.or_self, true_or, or_true, and_true, true_and, false_and, and_false, false_or, or_false, not_true_eq_false, not_false_eq_true, Bool.not_true, Bool.not_false, Bool.false_eq_true, and_self, ite_true, ite_false, eq_self, hT_sR, hP_sR, hI_sR, hL_sR, hN_sR, hR_sRu, hT_sI, hP_sI, hR_sI, hL_sI, hN_sI, hI_sI, hT_sL, hP_sL, hR_sL, hI_sL, hN_sL, hL_sL, hT_sP, hR_sP, hI_sP, hL_sP, hN_sP, hP_sP, u1_app, u2_app, hT_sA, hP_sA, hR_sA, hL_sA, hN_sA, hI_sA, sI_sA, sI_sI, sA_sA, sA_sI, hT_sLA, hP_sLA, hR_sLA, hI_sLA, hN_sLA, hL_sLA, sL_sLA, gT95 g, gT96 g, gT97 g, gT98 g, gT99 g, gT100 g, gT101 g, gT102 g, gT103 g, gT104 g, gT105 g, gT106 g, gT107 g, gT108 g, gT109 g, gT110 g, gT111 g, gT112 g, gT113 g, gT114 g, gT115 g, gT116 g, gT117 g, gT118 g, gT119 g, gT120 g, gT121 g, gT122 g, gT123 g, gT124 g, gT125 g, gT126 g, gT127 g, gT128 g, gT129 g, gT130 g, gT131 g, gT132 g, gT133 g, gT134 g, gT135 g, gT136 g, gP95_0 g, gP95_14 g, gP95_15 g, gP95_16 g, gP95_17 g, gP95_18 g, gP95_22 g, gP95_23 g, gP95_24 g, gP95_25 g, gP95_26 g, gP95_29 g, gP95_33 g, gP95_34 g, gP95_35 g, gP95_36 g, gP95_38 g, gP95_41 g, gP95_42 g, gP95_43 g, gP95_44 g, gP95_45 g, gP95_46 g, gP95_47 g, gP95_48 g, gP95_49 g, gP95_50 g, gP95_52 g, gP95_54 g, gP95_55 g, gP95_56 g, gP95_57 g, gP95_58 g, gP95_60 g, gP95_61 g, gP95_62 g, gP95_63 g, gP95_64 g, gP95_66 g, gP95_67 g, gP95_68 g, gT95 g', gT96 g', gT97 g', gT98 g', gT99 g', gT100 g', gT101 g', gT102 g', gT103 g', gT104 g', gT105 g', gT106 g', gT107 g', gT108 g', gT109 g', gT110 g', gT111 g', gT112 g', gT113 g', gT114 g', gT115 g', gT116 g', gT117 g', gT118 g', gT119 g', gT120 g', gT121 g', gT122 g', gT123 g', gT124 g', gT125 g', gT126 g', gT127 g', gT128 g', gT129 g', gT130 g', gT131 g', gT132 g', gT133 g', gT134 g', gT135 g', gT136 g', gP95_0 g', gP95_14 g', gP95_15 g', gP95_16 g', gP95_17 g', gP95_18 g', gP95_22 g', gP95_23 g', gP95_24 g', gP95_25 g', gP95_26 g', gP95_29 g', gP95_33 g', gP95_34 g', gP95_35 g', gP95_36 g', gP95_38 g', gP95_41 g', gP95_42 g', gP95_43 g', gP95_44 g', gP95_45 g', gP95_46 g', gP95_47 g', gP95_48 g', gP95_49 g', gP95_50 g', gP95_52 g', gP95_54 g', gP95_55 g', gP95_56 g', gP95_57 g', gP95_58 g', gP95_60 g', gP95_61 g', gP95_62 g', gP95_63 g', gP95_64 g', gP95_66 g', gP95_67 g', gP95_68 g', iI_lt2, iI_le2, iI_eq2, iI_lt0, iI_0lt, iI_le0, iI_0le, iI_eq0, iI_eq1, iI_nat2, iI_add, iI_sub, iI_mul, Int.toNat_natCast, if_pos, if_neg, x1', x4, z01]
    try rfl
  have lx : mX12_lex [.ref 95] h = some (none, h) := P.lx g n4
  have h8 : hI h 95 8 = iI 0 := P.2.2.1
  have d27 : hI h 95 27 = iI ((fr.length + 1 : Nat) : Int) := P.2.2.2.2.2.1
  have b1 : hI h 102 fr.length = iI F.1 := P.2.2.2.2.2.2.1.1.1
  have if1 : ¬ ((fr.length : Nat) : Int) < 0 ∧ fr.length < 20 := by omega
  have ed : ((fr.length + 1 : Nat) : Int) - 1 = ((fr.length : Nat) : Int) := by omega
  have it := m_isTest (h := h) F.1 (by omega)
  have pre : ∀ (h' : AH) (v : Int) (e : List Slot) (r : MRs), (v = 0 ∨ v = 1) → goA [.val (.ref 95), .val (.int (iI ((fr.length : Nat) : Int))), .val (.int (iI F.1)), .val (.int (iI (if tst F.1 = true then 1 else 0))), .unset] h = some (.inr (some (.int (iI v))), e, h') → GoR h h' T b v r → ∃ h' v, mX12_goesOn [.ref 95] h = some (some (.int (iI v)), h') ∧ GoR h h' T b v r := by
    intro h' v e r hv he hr
    refine ⟨h', v, ?_, hr⟩
    rw [eX12_goesOn, go_is]
    clear hr
    generalize (if tst F.1 = true then (1 : Int) else 0) = tv at *
    generalize F.1 = f1 at *
    simp -implicitDefEqProofs (disch := omega) only [bind_ite, ev_itea, ev_seq, ev_seq0, ev_seq1, ev_seq2, ev_seqr, ev_if, ev_ift, ev_iff, ev_ifd, ev_ife, ev_ifet, ev_ifef, ev_ifed, ev_skip, ev_cont, ev_brk, ev_retV, ev_retI, ev_retIv, ev_retL, ev_retLv, ev_retR, ev_retRv, ev_for, ev_for0, ev_for2, ev_for1, ev_forr, ev_sc, ev_scv, ev_ex, ev_exv, ev_lsI, ev_lsIv, ev_lsL, ev_lsLv, ev_lsR, ev_lsRv, ev_ciI, ev_clL, ev_lvI0, ev_lvL0, ev_lvR0, ev_inc0, ev_s1_0, ev_s2_0, ev_lvI1, ev_lvL1, ev_lvR1, ev_inc1, ev_s1_1i, ev_s2_1i, ev_s1_1r, ev_s2_1r, ev_s1_1u, ev_s2_1u, ev_s1_1s, ev_s2_1s, ev_lvI2, ev_lvL2, ev_lvR2, ev_inc2, ev_s1_2i, ev_s2_2i, ev_s1_2r, ev_s2_2r, ev_s1_2u, ev_s2_2u, ev_s1_2s, ev_s2_2s, ev_lvI3, ev_lvL3, ev_lvR3, ev_inc3, ev_s1_3i, ev_s2_3i, ev_s1_3r, ev_s2_3r, ev_s1_3u, ev_s2_3u, ev_s1_3s, ev_s2_3s, ev_lvI4, ev_lvL4, ev_lvR4, ev_inc4, ev_s1_4i, ev_s2_4i, ev_s1_4r, ev_s2_4r, ev_s1_4u, ev_s2_4u, ev_s1_4s, ev_s2_4s, ev_lvI5, ev_lvL5, ev_lvR5, ev_inc5, ev_s1_5i, ev_s2_5i, ev_s1_5r, ev_s2_5r, ev_s1_5u, ev_s2_5u, ev_s1_5s, ev_s2_5s, ev_lvI6, ev_lvL6, ev_lvR6, ev_inc6, ev_s1_6i, ev_s2_6i, ev_s1_6r, ev_s2_6r, ev_s1_6u, ev_s2_6u, ev_s1_6s, ev_s2_6s, ev_lvI7, ev_lvL7, ev_lvR7, ev_inc7, ev_s1_7i, ev_s2_7i, ev_s1_7r, ev_s2_7r, ev_s1_7u, ev_s2_7u, ev_s1_7s, ev_s2_7s, ev_lvI8, ev_lvL8, ev_lvR8, ev_inc8, ev_s1_8i, ev_s2_8i, ev_s1_8r, ev_s2_8r, ev_s1_8u, ev_s2_8u, ev_s1_8s, ev_s2_8s, ev_lvI9, ev_lvL9, ev_lvR9, ev_inc9, ev_s1_9i, ev_s2_9i, ev_s1_9r, ev_s2_9r, ev_s1_9u, ev_s2_9u, ev_s1_9s, ev_s2_9s, ev_lvI10, ev_lvL10, ev_lvR10, ev_inc10, ev_s1_10i, ev_s2_10i, ev_s1_10r, ev_s2_10r, ev_s1_10u, ev_s2_10u, ev_s1_10s, ev_s2_10s, ev_lvI11, ev_lvL11, ev_lvR11, ev_inc11, ev_s1_11i, ev_s2_11i, ev_s1_11r, ev_s2_11r, ev_s1_11u, ev_s2_11u, ev_s1_11s, ev_s2_11s, ev_lvI12, ev_lvL12, ev_lvR12, ev_inc12, ev_s1_12i, ev_s2_12i, ev_s1_12r, ev_s2_12r, ev_s1_12u, ev_s2_12u, ev_s1_12s, ev_s2_12s, ev_lvI13, ev_lvL13, ev_lvR13, ev_inc13, ev_s1_13i, ev_s2_13i, ev_s1_13r, ev_s2_13r, ev_s1_13u, ev_s2_13u, ev_s1_13s, ev_s2_13s, ev_cut1_0, ev_cut1_1, ev_cut2_0, ev_cut2_1, ev_cut2_2, ev_cut3_0, ev_cut3_1, ev_cut3_2, ev_cut3_3, ev_cut4_0, ev_cut4_1, ev_cut4_2, ev_cut4_3, ev_cut4_4, ev_cut5_0, ev_cut5_1, ev_cut5_2, ev_cut5_3, ev_cut5_4, ev_cut5_5, ev_cut6_0, ev_cut6_1, ev_cut6_2, ev_cut6_3, ev_cut6_4, ev_cut6_5, ev_cut6_6, ev_cut7_0, ev_cut7_1, ev_cut7_2, ev_cut7_3, ev_cut7_4, ev_cut7_5, ev_cut7_6, ev_cut7_7, ev_cut8_0, ev_cut8_1, ev_cut8_2, ev_cut8_3, ev_cut8_4, ev_cut8_5, ev_cut8_6, ev_cut8_7, ev_cut8_8, ev_cut9_0, ev_cut9_1, ev_cut9_2, ev_cut9_3, ev_cut9_4, ev_cut9_5, ev_cut9_6, ev_cut9_7, ev_cut9_8, ev_cut9_9, ev_cut10_0, ev_cut10_1, ev_cut10_2, ev_cut10_3, ev_cut10_4, ev_cut10_5, ev_cut10_6, ev_cut10_7, ev_cut10_8, ev_cut10_9, ev_cut10_10, ev_cut11_0, ev_cut11_1, ev_cut11_2, ev_cut11_3, ev_cut11_4, ev_cut11_5, ev_cut11_6, ev_cut11_7, ev_cut11_8, ev_cut11_9, ev_cut11_10, ev_cut11_11, ev_cut12_0, ev_cut12_1, ev_cut12_2, ev_cut12_3, ev_cut12_4, ev_cut12_5, ev_cut12_6, ev_cut12_7, ev_cut12_8, ev_cut12_9, ev_cut12_10, ev_cut12_11, ev_cut12_12, ev_cut13_0, ev_cut13_1, ev_cut13_2, ev_cut13_3, ev_cut13_4, ev_cut13_5, ev_cut13_6, ev_cut13_7, ev_cut13_8, ev_cut13_9, ev_cut13_10, ev_cut13_11, ev_cut13_12, ev_cut13_13, ev_bin, ev_addI, ev_addIv, ev_subI, ev_subIv, ev_mulI, ev_mulIv, ev_andI, ev_andIv, ev_orI, ev_orIv, ev_xorI, ev_xorIv, ev_shlI, ev_shlIv, ev_shrI, ev_shrIv, ev_ushrI, ev_ushrIv, ev_addL, ev_addLv, ev_subL, ev_subLv, ev_mulL, ev_mulLv, ev_andL, ev_andLv, ev_orL, ev_orLv, ev_shlL, ev_shlLv, ev_divI, ev_divIv, ev_remI, ev_remIv, ev_divL, ev_divLv, ev_remL, ev_remLv, ev_eqI, ev_eqIv, ev_eqL, ev_eqLv, ev_eq0, ev_eq0v, ev_neI, ev_neIv, ev_neL, ev_neLv, ev_ne0, ev_ne0v, ev_ltI, ev_ltIv, ev_ltL, ev_ltLv, ev_lt0, ev_lt0v, ev_geI, ev_geIv, ev_geL, ev_geLv, ev_ge0, ev_ge0v, ev_gtI, ev_gtIv, ev_gtL, ev_gtLv, ev_gt0, ev_gt0v, ev_leI, ev_leIv, ev_leL, ev_leLv, ev_le0, ev_le0v, ev_i2L, ev_i2Lv, ev_l2I, ev_l2Iv, ev_nul, ev_nuls, ev_nuln, ev_andX, ev_andXt, ev_andXf, ev_andXd, ev_orX, ev_orXt, ev_orXf, ev_orXd, ev_notX, ev_notXv, ev_notd, ev_iteX, ev_iteXt, ev_iteXf, ev_iteXd, ev_getI, ev_getIv, ev_getL, ev_getLv, ev_getR, ev_getRv, ev_rsz, ev_rszv, ev_aldI, ev_aldIq, ev_aldIv, ev_aldL, ev_aldLq, ev_aldLv, ev_aldR, ev_aldRq, ev_aldRv, ev_aln, ev_putI, ev_putIq, ev_putIv, ev_putZ, ev_putZq, ev_putZv, ev_putL, ev_putLq, ev_putLv, ev_putR, ev_putRq, ev_putRv, ev_astI, ev_astIq, ev_astIi, ev_astIv, ev_astZ, ev_astZq, ev_astZi, ev_astZv, ev_astL, ev_astLq, ev_astLi, ev_astLv, ev_astR, ev_upd, ev_updq, ev_updv, ev_ina, ev_inaq, ev_inav, ev_rzs, ev_rzsq, ev_rzsv, ev_sw, ev_swx, ev_swr, ev_agN, ev_agC, ev_agi, ev_agl, ev_agr, ev_ag2, ev_calX, ev_calv, ev_decI, ev_decL, ev_decR, ev_calS, ev_clsv, ev_clsd, ev_ck0, ev_ck1, ev_cs1, ev_ck2, ev_cs2, ev_ck3, ev_cs3, ev_ck4, ev_cs4, ev_ck5, ev_cs5, ev_finV, ev_finI, ev_finL, ev_finR, ev_fin1, ev_fin0, ev_finZ, ev_newO, ev_newv, ev_newR, ev_newA, ev_newAv, ev_oi, ev_oiv, Option.bind_some, Option.bind_none, Option.bind_fun_some, reduceCtorEq, reduceIte, List.take_zero, Sum.inl.injEq, Sum.inr.injEq, Option.some.injEq, Prod.mk.injEq, Nat.reduceEqDiff, Nat.reduceAdd, Nat.reduceSub, Nat.reduceMul, Nat.reduceLT, Nat.reduceLeDiff, decide_true, decide_false, decide_eq_true_eq, decide_eq_false_iff_not, Bool.and_true, Bool.true_and, Bool.and_false, Bool.false_and, Bool.false_or, Bool.or_false, Bool.true_or, Bool.or_true, Bool.and_self, Bool.or_self, true_or, or_true, and_true, true_and, false_and, and_false, false_or, or_false, not_true_eq_false, not_false_eq_true, Bool.not_true, Bool.not_false, Bool.false_eq_true, and_self, ite_true, ite_false, eq_self, hT_sR, hP_sR, hI_sR, hL_sR, hN_sR, hR_sRu, hT_sI, hP_sI, hR_sI, hL_sI, hN_sI, hI_sI, hT_sL, hP_sL, hR_sL, hI_sL, hN_sL, hL_sL, hT_sP, hR_sP, hI_sP, hL_sP, hN_sP, hP_sP, u1_app, u2_app, hT_sA, hP_sA, hR_sA, hL_sA, hN_sA, hI_sA, sI_sA, sI_sI, sA_sA, sA_sI, hT_sLA, hP_sLA, hR_sLA, hI_sLA, hN_sLA, hL_sLA, sL_sLA, gT95 g, gT96 g, gT97 g, gT98 g, gT99 g, gT100 g, gT101 g, gT102 g, gT103 g, gT104 g, gT105 g, gT106 g, gT107 g, gT108 g, gT109 g, gT110 g, gT111 g, gT112 g, gT113 g, gT114 g, gT115 g, gT116 g, gT117 g, gT118 g, gT119 g, gT120 g, gT121 g, gT122 g, gT123 g, gT124 g, gT125 g, gT126 g, gT127 g, gT128 g, gT129 g, gT130 g, gT131 g, gT132 g, gT133 g, gT134 g, gT135 g, gT136 g, gP95_0 g, gP95_14 g, gP95_15 g, gP95_16 g, gP95_17 g, gP95_18 g, gP95_22 g, gP95_23 g, gP95_24 g, gP95_25 g, gP95_26 g, gP95_29 g, gP95_33 g, gP95_34 g, gP95_35 g, gP95_36 g, gP95_38 g, gP95_41 g, gP95_42 g, gP95_43 g, gP95_44 g, gP95_45 g, gP95_46 g, gP95_47 g, gP95_48 g, gP95_49 g, gP95_50 g, gP95_52 g, gP95_54 g, gP95_55 g, gP95_56 g, gP95_57 g, gP95_58 g, gP95_60 g, gP95_61 g, gP95_62 g, gP95_63 g, gP95_64 g, gP95_66 g, gP95_67 g, gP95_68 g, iI_lt2, iI_le2, iI_eq2, iI_lt0, iI_0lt, iI_le0, iI_0le, iI_eq0, iI_eq1, iI_nat2, iI_add, iI_sub, iI_mul, Int.toNat_natCast, if_pos, if_neg, lx, h8, d27, ed, if1, b1, it, he, Int.lt_irrefl]
    rcases hv with z | z <;> (rw [z]; rfl)
  -- behind arithmetic
  have core : (F.2.1 < 2 → sSum (tkT T) k = none ∧ sPro (tkT T) k = none) → ∃ h' v, mX12_goesOn [.ref 95] h = some (some (.int (iI v)), h') ∧ GoR h h' T b v (mGo (tkT T) k o c ops F fr) := by
    intro hn
    have tv01 : (if tst F.1 = true then (1 : Int) else 0) = 0 ∨ (if tst F.1 = true then (1 : Int) else 0) = 1 := by split <;> simp
    have na := go_noarith g P n4 hfr qF.1 hn (iI F.1) (iI (if tst F.1 = true then 1 else 0))
    by_cases t : tst F.1 = true ∧ F.2.1 = 0
    · have et : (if tst F.1 = true then (1 : Int) else 0) = 1 := if_pos t.1
      rw [et] at na pre
      have n12 := hn (by omega)
      rcases e3 : sCmp (tkT T) k with _ | op
      · have er : mGo (tkT T) k o c ops F fr = .inr (.inr (1, (tkT T k).2.2)) := by
          unfold mGo
          rw [if_neg n4]
          simp only [n12.1, n12.2, e3, ite_self, t, and_self, if_true]
        rw [er]
        obtain ⟨h', e, a1, a2⟩ := go_blamed g P n4 hfr t.2 (tst_iff.mp t.1)
        refine pre h' 0 e _ (Or.inl rfl) ?_ a2
        rw [na, go_nocmp g P n4 hfr qF.1 1 (Or.inr rfl) (fun _ _ => e3)]
        exact a1
      · rw [mGo_cmp t.1 t.2 e3 n12.1 n12.2]
        obtain ⟨h', e, a1, a2⟩ := go_cmp g P I v n4 hk t.2 op e3 (iI F.1)
        refine pre h' 1 e _ (Or.inr rfl) ?_ a2
        rw [na]
        exact a1
    · have hnop : nop (tkT T) F k := ⟨hn, fun a b => t ⟨a, b⟩⟩
      have p1 : tst F.1 = true → 1 ≤ F.2.1 ∧ F.2.1 ≤ 2 := fun z => by
        have : F.2.1 ≠ 0 := fun y => t ⟨z, y⟩
        have := qF.1
        omega
      have nc := go_nocmp g P n4 hfr qF.1 (if tst F.1 = true then 1 else 0) tv01 (fun z y => by
        by_cases w : tst F.1 = true
        · exact absurd ⟨w, y⟩ t
        · rw [if_neg w] at z; cases z) (iI F.1)
      rw [mGo_rest n4 hnop]
      by_cases w27 : tst F.1 = true ∧ isW (tkT T) k 27 = true
      · rw [if_pos w27]
        have et : (if tst F.1 = true then (1 : Int) else 0) = 1 := if_pos w27.1
        rw [et] at na nc pre
        obtain ⟨h', e, a1, a2⟩ := go_andor g P I v n4 hk (p1 w27.1) 41 2 (Or.inl ⟨w27.2, rfl, rfl⟩) (iI F.1)
        refine pre h' 1 e _ (Or.inr rfl) ?_ a2
        rw [na, nc]
        exact a1
      rw [if_neg w27]
      by_cases w28 : tst F.1 = true ∧ isW (tkT T) k 28 = true
      · rw [if_pos w28]
        have et : (if tst F.1 = true then (1 : Int) else 0) = 1 := if_pos w28.1
        rw [et] at na nc pre
        obtain ⟨h', e, a1, a2⟩ := go_andor g P I v n4 hk (p1 w28.1) 42 1 (Or.inr ⟨w28.2, rfl, rfl⟩) (iI F.1)
        refine pre h' 1 e _ (Or.inr rfl) ?_ a2
        rw [na, nc]
        exact a1
      rw [if_neg w28]
      have nd := go_noand g P n4 (if tst F.1 = true then 1 else 0) tv01 (fun z => by
        by_cases w : tst F.1 = true
        · exact ⟨fun y => w27 ⟨w, y⟩, fun y => w28 ⟨w, y⟩⟩
        · rw [if_neg w] at z; cases z) (iI ((fr.length : Nat) : Int)) (iI F.1)
      have nD := go_D g P hfr qF.1 (if tst F.1 = true then 1 else 0) tv01 (fun z y => by
        by_cases w : tst F.1 = true
        · exact t ⟨w, y⟩
        · rw [if_neg w] at z; cases z) (iI F.1)
      by_cases k2 : F.1 < 2
      · rw [if_pos k2]
        obtain ⟨h', e, a1, a2⟩ := go_done g P I v hk (show F.1 = 1 by omega) (iI ((fr.length : Nat) : Int)) (iI (if tst F.1 = true then 1 else 0))
        refine pre h' 0 e _ (Or.inl rfl) ?_ a2
        rw [na, nc, nd, nD]
        exact a1
      rw [if_neg k2]
      have nE := go_E (h := h) F.1 (by omega) (iI ((fr.length : Nat) : Int)) (iI (if tst F.1 = true then 1 else 0))
      by_cases c36 : F.1 = 3 ∨ F.1 = 6
      · rw [if_pos c36]
        obtain ⟨h', v', e, a1, a2⟩ := go_comma g P I v n4 hk c36 (iI (if tst F.1 = true then 1 else 0))
        refine pre h' v' e _ ?_ ?_ a2
        · exact a2.v01
        · rw [na, nc, nd, nD, nE]
          exact a1
      · rw [if_neg c36]
        have nF := go_F (h := h) F.1 (by omega) (fun z => c36 (Or.inl z)) (fun z => c36 (Or.inr z)) (iI ((fr.length : Nat) : Int)) (iI (if tst F.1 = true then 1 else 0))
        have hF : F.1 = 2 ∨ F.1 = 4 ∨ F.1 = 5 := by omega
        cases fr with
        | nil =>
          have : F.1 = 1 := B.2.2
          omega
        | cons G r =>
          have I' := I
          obtain ⟨⟨L, R, e, hb, s, sr⟩, -, -, i4, -⟩ := I
          have e : ops = L ++ R := e
          have hb : F.2.2.2.2 = R.length := hb
          have i4' : c.length + ops.length + (cal F + wgt (G :: r)) ≤ k := by
            have : c.length + ops.length + ((F :: G :: r).map cal).sum ≤ k := i4
            rw [List.map_cons, List.sum_cons] at this
            exact this
          rw [e, List.count_append] at i2
          rw [e, List.length_append] at i4'
          have lG : (G :: r).length = r.length + 1 := rfl
          obtain ⟨L', a1, a2, a3, a4, a5, a6⟩ := jn_seg (l := 1) (R := R) L c o s.1 (by omega)
          rw [← e, ← hb] at a4 a5 a6
          obtain ⟨h', v', e', x1, x2⟩ := go_close g P I' v n4 hk h31 hF (by omega) (by omega) (fun z => by
            have : cal F = 1 := by unfold cal; rw [if_pos (by omega)]
            omega) (fun z => by
            have : cal F = 1 := by unfold cal; rw [if_pos (by omega)]
            have := qF.2 this
            omega) (iI (if tst F.1 = true then 1 else 0))
          refine pre h' v' e' _ ?_ ?_ x2
          · exact x2.v01
          · rw [na, nc, nd, nD, nE, nF]
            exact x1
  by_cases hp : F.2.1 < 2
  · rcases e1 : sSum (tkT T) k with _ | op
    · rcases e2 : sPro (tkT T) k with _ | op
      · exact core (fun _ => ⟨e1, e2⟩)
      · rw [mGo_pro hp e2]
        obtain ⟨h', e, a1, a2⟩ := go_arith g P I v n4 hk ⟨qF.1.1, hp⟩ op 6 (Or.inr ⟨e2, rfl⟩) (iI F.1) (iI (if tst F.1 = true then 1 else 0))
        exact pre h' 1 e _ (Or.inr rfl) a1 a2
    · rw [mGo_sum hp e1]
      obtain ⟨h', e, a1, a2⟩ := go_arith g P I v n4 hk ⟨qF.1.1, hp⟩ op 5 (Or.inl ⟨e1, rfl⟩) (iI F.1) (iI (if tst F.1 = true then 1 else 0))
      exact pre h' 1 e _ (Or.inr rfl) a1 a2
  · exact core (fun z => absurd z hp)
