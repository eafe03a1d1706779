/-! ===== L2: save over the invariant ===== -/
theorem M_save0 {h : AH} (g : Gr h) (hst : hI h 95 32 = iI (if false = true then 1 else 0)) (T : List Int) (hT : TapeM T h) (hl : T.length ≤ 1600) (G : List Int) (hG : RefM G h) :
    ∃ h', mX12_save [.ref 95] h = some (some (.int (iI (-1))), h') ∧ FrM [108, 120, 121, 122, 123] [1, 51, 53] h h' ∧ hI h' 95 1 = iI 0 ∧ hI h' 108 = u1 (hI h 108) 3 (iI (G.getD 3 0 + 1)) := by
  rcases m_isFile g false hst T hT hl with ⟨t1, t2⟩ | ⟨t1, t2⟩
  · exact absurd t1.1 (by decide)
  · have z10 : ¬ (1 : Int) = 0 := by decide
    refine ⟨sI (sI h 95 1 (iI 0)) 108 3 (iI (G.getD 3 0 + 1)), ?_, ?_, ?_, ?_⟩
    · have fr0 : FrM [] [1] h (sI h 95 1 (iI 0)) := (FrM.rf _ _ h).wF 1 (by simp) _
      have g1 := fr0.gr g
      have er : mX12_refuses [.ref 95, .int (iI 3)] (sI h 95 1 (iI 0)) = some (some (.int (iI (-1))), sI (sI h 95 1 (iI 0)) 108 3 (iI (G.getD 3 0 + 1))) := m_refuses g1 G 3 (by decide) (fun i hi => by rw [hI_sI, u2_ne (by decide)]; exact hG i hi)
      simp -implicitDefEqProofs (disch := omega) only [bind_ite, ev_itea, ev_seq, ev_seq0, ev_seq1, ev_seq2, ev_seqr, ev_if, ev_ift, ev_iff, ev_ifd, ev_ife, ev_ifet, ev_ifef, ev_ifed, ev_skip, ev_cont, ev_brk, ev_retV, ev_retI, ev_retIv, ev_retL, ev_retLv, ev_retR, ev_retRv, ev_for, ev_for0, ev_for2, ev_for1, ev_forr, ev_sc, ev_scv, ev_ex, ev_exv, ev_lsI, ev_lsIv, ev_lsL, ev_lsLv, ev_lsR, ev_lsRv, ev_ciI, ev_clL, ev_lvI0, ev_lvL0, ev_lvR0, ev_inc0, ev_s1_0, ev_s2_0, ev_lvI1, ev_lvL1, ev_lvR1, ev_inc1, ev_s1_1i, ev_s2_1i, ev_s1_1r, ev_s2_1r, ev_s1_1u, ev_s2_1u, ev_s1_1s, ev_s2_1s, ev_lvI2, ev_lvL2, ev_lvR2, ev_inc2, ev_s1_2i, ev_s2_2i, ev_s1_2r, ev_s2_2r, ev_s1_2u, ev_s2_2u, ev_s1_2s, ev_s2_2s, ev_lvI3, ev_lvL3, ev_lvR3, ev_inc3, ev_s1_3i, ev_s2_3i, ev_s1_3r, ev_s2_3r, ev_s1_3u, ev_s2_3u, ev_s1_3s, ev_s2_3s, ev_lvI4, ev_lvL4, ev_lvR4, ev_inc4, ev_s1_4i, ev_s2_4i, ev_s1_4r, ev_s2_4r, ev_s1_4u, ev_s2_4u, ev_s1_4s, ev_s2_4s, ev_lvI5, ev_lvL5, ev_lvR5, ev_inc5, ev_s1_5i, ev_s2_5i, ev_s1_5r, ev_s2_5r, ev_s1_5u, ev_s2_5u, ev_s1_5s, ev_s2_5s, ev_lvI6, ev_lvL6, ev_lvR6, ev_inc6, ev_s1_6i, ev_s2_6i, ev_s1_6r, ev_s2_6r, ev_s1_6u, ev_s2_6u, ev_s1_6s, ev_s2_6s, ev_lvI7, ev_lvL7, ev_lvR7, ev_inc7, ev_s1_7i, ev_s2_7i, ev_s1_7r, ev_s2_7r, ev_s1_7u, ev_s2_7u, ev_s1_7s, ev_s2_7s, ev_lvI8, ev_lvL8, ev_lvR8, ev_inc8, ev_s1_8i, ev_s2_8i, ev_s1_8r, ev_s2_8r, ev_s1_8u, ev_s2_8u, ev_s1_8s, ev_s2_8s, ev_lvI9, ev_lvL9, ev_lvR9, ev_inc9, ev_s1_9i, ev_s2_9i, ev_s1_9r, ev_s2_9r, ev_s1_9u, ev_s2_9u, ev_s1_9s, ev_s2_9s, ev_lvI10, ev_lvL10, ev_lvR10, ev_inc10, ev_s1_10i, ev_s2_10i, ev_s1_10r, ev_s2_10r, ev_s1_10u, ev_s2_10u, ev_s1_10s, ev_s2_10s, ev_lvI11, ev_lvL11, ev_lvR11, ev_inc11, ev_s1_11i, ev_s2_11i, ev_s1_11r, ev_s2_11r, ev_s1_11u, ev_s2_11u, ev_s1_11s, ev_s2_11s, ev_lvI12, ev_lvL12, ev_lvR12, ev_inc12, ev_s1_12i, ev_s2_12i, ev_s1_12r, ev_s2_12r, ev_s1_12u, ev_s2_12u, ev_s1_12s, ev_s2_12s, ev_lvI13, ev_lvL13, ev_lvR13, ev_inc13, ev_s1_13i, ev_s2_13i, ev_s1_13r, ev_s2_13r, ev_s1_13u, ev_s2_13u, ev_s1_13s, ev_s2_13s, ev_cut1_0, ev_cut1_1, ev_cut2_0, ev_cut2_1, ev_cut2_2, ev_cut3_0, ev_cut3_1, ev_cut3_2, ev_cut3_3, ev_cut4_0, ev_cut4_1, ev_cut4_2, ev_cut4_3, ev_cut4_4, ev_cut5_0, ev_cut5_1, ev_cut5_2, ev_cut5_3, ev_cut5_4, ev_cut5_5, ev_cut6_0, ev_cut6_1, ev_cut6_2, ev_cut6_3, ev_cut6_4, ev_cut6_5, ev_cut6_6, ev_cut7_0, ev_cut7_1, ev_cut7_2, ev_cut7_3, ev_cut7_4, ev_cut7_5, ev_cut7_6, ev_cut7_7, ev_cut8_0, ev_cut8_1, ev_cut8_2, ev_cut8_3, ev_cut8_4, ev_cut8_5, ev_cut8_6, ev_cut8_7, ev_cut8_8, ev_cut9_0, ev_cut9_1, ev_cut9_2, ev_cut9_3, ev_cut9_4, ev_cut9_5, ev_cut9_6, ev_cut9_7, ev_cut9_8, ev_cut9_9, ev_cut10_0, ev_cut10_1, ev_cut10_2, ev_cut10_3, ev_cut10_4, ev_cut10_5, ev_cut10_6, ev_cut10_7, ev_cut10_8, ev_cut10_9, ev_cut10_10, ev_cut11_0, ev_cut11_1, ev_cut11_2, ev_cut11_3, ev_cut11_4, ev_cut11_5, ev_cut11_6, ev_cut11_7, ev_cut11_8, ev_cut11_9, ev_cut11_10, ev_cut11_11, ev_cut12_0, ev_cut12_1, ev_cut12_2, ev_cut12_3, ev_cut12_4, ev_cut12_5, ev_cut12_6, ev_cut12_7, ev_cut12_8, ev_cut12_9, ev_cut12_10, ev_cut12_11, ev_cut12_12, ev_cut13_0, ev_cut13_1, ev_cut13_2, ev_cut13_3, ev_cut13_4, ev_cut13_5, ev_cut13_6, ev_cut13_7, ev_cut13_8, ev_cut13_9, ev_cut13_10, ev_cut13_11, ev_cut13_12, ev_cut13_13, ev_bin, ev_addI, ev_addIv, ev_subI, ev_subIv, ev_mulI, ev_mulIv, ev_andI, ev_andIv, ev_orI, ev_orIv, ev_xorI, ev_xorIv, ev_shlI, ev_shlIv, ev_shrI, ev_shrIv, ev_ushrI, ev_ushrIv, ev_addL, ev_addLv, ev_subL, ev_subLv, ev_mulL, ev_mulLv, ev_andL, ev_andLv, ev_orL, ev_orLv, ev_shlL, ev_shlLv, ev_divI, ev_divIv, ev_remI, ev_remIv, ev_divL, ev_divLv, ev_remL, ev_remLv, ev_eqI, ev_eqIv, ev_eqL, ev_eqLv, ev_eq0, ev_eq0v, ev_neI, ev_neIv, ev_neL, ev_neLv, ev_ne0, ev_ne0v, ev_ltI, ev_ltIv, ev_ltL, ev_ltLv, ev_lt0, ev_lt0v, ev_geI, ev_geIv, ev_geL, ev_geLv, ev_ge0, ev_ge0v, ev_gtI, ev_gtIv, ev_gtL, ev_gtLv, ev_gt0, ev_gt0v, ev_leI, ev_leIv, ev_leL, ev_leLv, ev_le0, ev_le0v, ev_i2L, ev_i2Lv, ev_l2I, ev_l2Iv, ev_nul, ev_nuls, ev_nuln, ev_andX, ev_andXt, ev_andXf, ev_andXd, ev_orX, ev_orXt, ev_orXf, ev_orXd, ev_notX, ev_notXv, ev_notd, ev_iteX, ev_iteXt, ev_iteXf, ev_iteXd, ev_getI, ev_getIv, ev_getL, ev_getLv, ev_getR, ev_getRv, ev_rsz, ev_rszv, ev_aldI, ev_aldIq, ev_aldIv, ev_aldL, ev_aldLq, ev_aldLv, ev_aldR, ev_aldRq, ev_aldRv, ev_aln, ev_putI, ev_putIq, ev_putIv, ev_putZ, ev_putZq, ev_putZv, ev_putL, ev_putLq, ev_putLv, ev_putR, ev_putRq, ev_putRv, ev_astI, ev_astIq, ev_astIi, ev_astIv, ev_astZ, ev_astZq, ev_astZi, ev_astZv, ev_astL, ev_astLq, ev_astLi, ev_astLv, ev_astR, ev_upd, ev_updq, ev_updv, ev_ina, ev_inaq, ev_inav, ev_rzs, ev_rzsq, ev_rzsv, ev_sw, ev_swx, ev_swr, ev_agN, ev_agC, ev_agi, ev_agl, ev_agr, ev_ag2, ev_calX, ev_calv, ev_decI, ev_decL, ev_decR, ev_calS, ev_clsv, ev_clsd, ev_ck0, ev_ck1, ev_cs1, ev_ck2, ev_cs2, ev_ck3, ev_cs3, ev_ck4, ev_cs4, ev_ck5, ev_cs5, ev_finV, ev_finI, ev_finL, ev_finR, ev_fin1, ev_fin0, ev_finZ, ev_newO, ev_newv, ev_newR, ev_newA, ev_newAv, ev_oi, ev_oiv, Option.bind_some, Option.bind_none, Option.bind_fun_some, reduceCtorEq, reduceIte, List.take_zero, Sum.inl.injEq, Sum.inr.injEq, Option.some.injEq, Prod.mk.injEq, Nat.reduceEqDiff, Nat.reduceAdd, Nat.reduceSub, Nat.reduceMul, Nat.reduceLT, Nat.reduceLeDiff, decide_true, decide_false, decide_eq_true_eq, decide_eq_false_iff_not, Bool.and_true, Bool.true_and, Bool.and_false, Bool.false_and, Bool.false_or, Bool.or_false, Bool.true_or, Bool.or_true, Bool.and_self, Bool.or_self, true_or, or_true, and_true, true_and, false_and, and_false, false_or, or_false, not_true_eq_false, not_false_eq_true, Bool.not_true, Bool.not_false, Bool.false_eq_true, and_self, ite_true, ite_false, eq_self, hT_sR, hP_sR, hI_sR, hL_sR, hN_sR, hR_sRu, hT_sI, hP_sI, hR_sI, hL_sI, hN_sI, hI_sI, hT_sL, hP_sL, hR_sL, hI_sL, hN_sL, hL_sL, hT_sP, hR_sP, hI_sP, hL_sP, hN_sP, hP_sP, u1_app, u2_app, hT_sA, hP_sA, hR_sA, hL_sA, hN_sA, hI_sA, sI_sA, sI_sI, sA_sA, sA_sI, hT_sLA, hP_sLA, hR_sLA, hI_sLA, hN_sLA, hL_sLA, sL_sLA, eX12_save, bX12_save, gT95 g, gT96 g, gT97 g, gT98 g, gT99 g, gT100 g, gT101 g, gT102 g, gT103 g, gT104 g, gT105 g, gT106 g, gT107 g, gT108 g, gT109 g, gT110 g, gT111 g, gT112 g, gT113 g, gT114 g, gT115 g, gT116 g, gT117 g, gT118 g, gT119 g, gT120 g, gT121 g, gT122 g, gT123 g, gT124 g, gT125 g, gT126 g, gT127 g, gT128 g, gT129 g, gT130 g, gT131 g, gT132 g, gT133 g, gT134 g, gT135 g, gT136 g, gP95_0 g, gP95_14 g, gP95_15 g, gP95_16 g, gP95_17 g, gP95_18 g, gP95_22 g, gP95_23 g, gP95_24 g, gP95_25 g, gP95_26 g, gP95_29 g, gP95_33 g, gP95_34 g, gP95_35 g, gP95_36 g, gP95_38 g, gP95_41 g, gP95_42 g, gP95_43 g, gP95_44 g, gP95_45 g, gP95_46 g, gP95_47 g, gP95_48 g, gP95_49 g, gP95_50 g, gP95_52 g, gP95_54 g, gP95_55 g, gP95_56 g, gP95_57 g, gP95_58 g, gP95_60 g, gP95_61 g, gP95_62 g, gP95_63 g, gP95_64 g, gP95_66 g, gP95_67 g, gP95_68 g, gT95 g1, gT96 g1, gT97 g1, gT98 g1, gT99 g1, gT100 g1, gT101 g1, gT102 g1, gT103 g1, gT104 g1, gT105 g1, gT106 g1, gT107 g1, gT108 g1, gT109 g1, gT110 g1, gT111 g1, gT112 g1, gT113 g1, gT114 g1, gT115 g1, gT116 g1, gT117 g1, gT118 g1, gT119 g1, gT120 g1, gT121 g1, gT122 g1, gT123 g1, gT124 g1, gT125 g1, gT126 g1, gT127 g1, gT128 g1, gT129 g1, gT130 g1, gT131 g1, gT132 g1, gT133 g1, gT134 g1, gT135 g1, gT136 g1, gP95_0 g1, gP95_14 g1, gP95_15 g1, gP95_16 g1, gP95_17 g1, gP95_18 g1, gP95_22 g1, gP95_23 g1, gP95_24 g1, gP95_25 g1, gP95_26 g1, gP95_29 g1, gP95_33 g1, gP95_34 g1, gP95_35 g1, gP95_36 g1, gP95_38 g1, gP95_41 g1, gP95_42 g1, gP95_43 g1, gP95_44 g1, gP95_45 g1, gP95_46 g1, gP95_47 g1, gP95_48 g1, gP95_49 g1, gP95_50 g1, gP95_52 g1, gP95_54 g1, gP95_55 g1, gP95_56 g1, gP95_57 g1, gP95_58 g1, gP95_60 g1, gP95_61 g1, gP95_62 g1, gP95_63 g1, gP95_64 g1, gP95_66 g1, gP95_67 g1, gP95_68 g1, iI_lt2, iI_le2, iI_eq2, iI_lt0, iI_0lt, iI_le0, iI_0le, iI_eq0, iI_eq1, iI_nat2, iI_add, iI_sub, iI_mul, Int.toNat_natCast, if_pos, if_neg, t2, z10, er]
    · exact ((FrM.rf _ _ h).wF 1 (by simp) _).wI 108 3 (by simp) (by decide) _
    · rw [hI_sI, u2_ne (by decide), hI_sI, u2_app, if_pos ⟨rfl, rfl⟩]
    · rw [sI_toA, hI_sA, u1_eq, hI_sI, u2_ne (by decide)]
theorem svE_le (nu : List Int) (ts : Nat → List (Int × Int)) (K : KT) {T : List Int} (hl : T.length ≤ 400) : (svE nu ts K T).length ≤ T.length ∧ lenS (pcs T (svE nu ts K T)) (svE nu ts K T).length ≤ T.length := by
  have eo := cutF_ok nu ts (kD K) T (nu.getD 1 0).toNat hl
  have en := cutF_end nu ts (kD K) T (nu.getD 1 0).toNat
  have eE : (cutF nu ts (kD K) T (nu.getD 1 0).toNat T.length).1 = svE nu ts K T := rfl
  rw [eE] at eo en
  generalize svE nu ts K T = E at *
  have le := lenS_le eo en E.length (Nat.le_refl _)
  refine ⟨?_, le⟩
  have k : ∀ n, n ≤ E.length → n ≤ lenS (pcs T E) n := fun n => by
    induction n with
    | zero => exact fun _ => Nat.le_refl _
    | succ n ih =>
      intro hn
      have := ih (by omega)
      have p := (pcs_at eo en (k := n) (by omega)).1
      have q := (eo.len (k := n) (by omega)).1
      show n + 1 ≤ lenS (pcs T E) n + (pcs T E n).length
      rw [p]
      omega
  have := k E.length (Nat.le_refl _)
  omega
theorem SvP.ex {F E : List Int} {K K' : KT} {a : Nat} (S : SvP F E K K' a) (b : Nat) (y : Bool × Int × Nat × Nat) (x : Int × Int × Int) : ExK K (addK (bkpK K' b y) x) := by
  obtain ⟨s1, s2, s3, s4, s5, ⟨s6, s6'⟩, s7, ⟨s8, s8'⟩, ⟨A, s9⟩, ⟨B, s10⟩, s11, s12, s13, s14, s15, s16, s17⟩ := S
  refine ⟨s6, List.isPrefixOf_iff_prefix.mpr ⟨A, s9.symm⟩, List.isPrefixOf_iff_prefix.mpr ⟨B, s10.symm⟩, fun p hp => (s12 p hp).symm, List.isPrefixOf_iff_prefix.mpr ⟨[x], ?_⟩, s11⟩
  show kK K ++ [x] = kK K' ++ [x]
  rw [s16]
/-- a past core, when arrays behind what it has were written -/
theorem KM.ar {h h' : AH} {W : Nat → Int32} {K0 K : KT} (R : KM (sA h 109 W) K0) (Z : ZrM (sA h 109 W) K0) (A : ArF K h h') (E : ExK K0 K) : KM (sA h' 109 W) K0 := by
  have hb := E.by
  have hU := (pre_take E.2.1).2
  have hG := (pre_take E.2.2.1).2
  have hH := E.2.2.2.2.2
  have hP := E.1
  obtain ⟨a1, a2, a3, a4, a5⟩ := A
  obtain ⟨z1, z2⟩ := Z
  have n9 : ∀ (x : AH), hI (sA x 109 W) 109 = W := fun x => by rw [hI_sA, u1_eq]
  have nq : ∀ (x : AH) (q : Nat), q ≠ 109 → hI (sA x 109 W) q = hI x q := fun x q hq => by rw [hI_sA, u1_ne hq]
  unfold KM at R ⊢
  rw [n9] at R z2
  rw [n9]
  rw [nq _ 113 (by decide), nq _ 114 (by decide), nq _ 115 (by decide), nq _ 116 (by decide), nq _ 117 (by decide), nq _ 118 (by decide), nq _ 119 (by decide)] at R ⊢
  obtain ⟨r0, r1, r2, r3, r4, r5, r6, r7, r8, r9, r10, r11, r12, ⟨fr, q1, q2, q3⟩, r14⟩ := R
  refine ⟨r0, r1, r2, r3, r4, r5, r6, r7, r8, fun p hp => ⟨(r9 p hp).1, (r9 p hp).2.1, ?_⟩, fun i hi => ?_, fun s hs => ?_, fun i hi => ?_, ⟨fr, fun p hp => ⟨?_, (q1 p hp).2.1, fun i hi => ?_⟩, q2, q3⟩, r14⟩
  · rw [(a2 p (by omega)).2]; exact (r9 p hp).2.2
  · rw [a1 i (by omega)]; exact r10 i hi
  · rw [(a4 s (by omega)).1, (a4 s (by omega)).2]; exact r11 s hs
  · rw [a5 i (by omega)]; exact r12 i hi
  · rw [(a2 p (by omega)).1]; exact (q1 p hp).1
  · have l1 := byS_fr (C := kC K0) (fr := fr) (kP K0) q3
    have l2 := byS_fr (C := kC K0) (fr := fr) (p + 1) (fun t ht => q3 t (by omega))
    have l3 := byS_le (kC K0) (p + 1) (kP K0) (by omega)
    have l4 := q3 p hp
    have l5 := q3 (kP K0 - 1) (by omega)
    have l6 := (q1 (kP K0 - 1) (by omega)).2.1
    have e1 : kP K0 - 1 + 1 = kP K0 := by omega
    rw [e1] at l5
    have lb : byN K0 = byS (kC K0) (kP K0) := rfl
    rw [z2] at q2
    have e2 : byN K0 ≤ fr (kP K0) := by omega
    have e3 := (iI_inj ⟨by omega, by omega⟩ ⟨by omega, by omega⟩).mp q2
    rw [a3 (fr p + i) (by omega)]
    exact (q1 p hp).2.2 i hi
theorem S_save {n : Nat} {h : AH} (I : Inv n h) (hn : n < 512) : StpI n h mX11_save mX12_save [] := by
  obtain ⟨r, r', nu, ts, idm, K, cf, PF, Ks, u, m, pn, bk, nv, tv, a, M, T, G, MT, st, x, fk, fp, C, L, D, E, P, V⟩ := I
  have X := C.1
  have ok := X.2.2.2.2.2.1
  have H := C.2.2.2.2.2.2.1
  have hu := H.1
  have hpl := psh_le u hu
  have G6 := P.2.2.2.2.2.2.2.2.2.1
  have ch := P.2.2.2.2.1
  have o2 := P.2.2.1
  have rr := C.2.1
  have x2 := X.2.1
  obtain ⟨na1, na2, na3, na4, na5, na6, na7, na8, na9⟩ := P.1.at
  obtain ⟨b1, b2, b3, b4, b5, b6, b7⟩ := P.2.2.2.2.2.2.2.2.2.2.2
  have hl := P.2.2.2.2.2.2.2.2.1
  have hr := P.2.2.2.2.2.2.2.1
  have sv1 : sv0 Ks K u ≤ (kK (Kx Ks K u (psh u))).length := by
    rw [sv0_Kx]
    have := (ch.ex 0 (psh u) (by omega)).1.kl
    rw [Nat.zero_add] at this
    exact this
  have sv2 : (kK K).length ≤ (kK (Kx Ks K u (psh u))).length + 19 := by
    have := (ch.ex (psh u) (u - psh u) (by omega)).2
    rw [show psh u + (u - psh u) = u by omega, Kx_last] at this
    omega
  rcases C_save X o2 C.2.2.2.2.1 C.2.2.2.2.2.1 (P.2.1 0 (by decide)) (P.2.1 1 (by decide)) na1.2 ⟨by omega, na4.2⟩ na5 na6.2 H C.2.2.2.2.2.2.2.1 (fun i hi => ⟨(P.2.2.2.1 i hi).2, (P.2.2.2.1 i hi).1, (ch.now hi).1⟩) (C.2.2.2.2.2.2.2.2.mono sv1) sv2 st L.2.2.2.1 T L.1 hl hr G L.2.1 G6 (by omega) (by omega) (by omega) (by omega) (by omega) (by omega) with ⟨c, h1, im, A, B, m1, q1, w, y1, X', H', y2, ⟨y3, y4, y5⟩, y6, Hi', Tl', Rg'⟩ | ⟨c, h1, q1, f1, R1, y1, y2⟩
  · have hst : st = true := c.1.1
    obtain ⟨l1, l2⟩ := svE_le nu ts K c.1.2.2
    have A1 : AgRe h h1 := w.re (by simp)
    have D1 := D.re A1
    obtain ⟨v1, v2⟩ := V.2.2.2.2 hst
    rw [v1, v2] at D1 V
    have E1 := E.re A1
    have nr : ∀ q, q = 2 ∨ q = 4 ∨ q = 80 ∨ q = r' + 11 → hR h1 q = hR h q := fun q hq => (w.1 q (by omega)).2.2.2.2 (fun z => by
      unfold svR at z
      simp only [List.mem_append, List.mem_cons, List.not_mem_nil, or_false] at z
      omega)
    obtain ⟨F, F1, F2⟩ := C.2.2.1
    have C1 : CK h1 r r' nu ts im (savK nu ts T (svE nu ts K T) K) (cf ++ B) (PF ++ A) (pK Ks K u) (u - psh u + 1) m1 ((pn + 1) % 20) := by
      refine ⟨X', rr, ⟨F, by rw [nr _ (by omega)]; exact F1, F2⟩, ?_, H', y2, Hi', Tl', ?_⟩
      · unfold WdC
        rw [nr 4 (by omega)]
        exact C.2.2.2.1
      · rw [sv0_Kx, Kx_act hu, if_pos (Nat.zero_le _), Nat.zero_add]
        exact Rg'
    have i0 : hI h1 0 = hI h 0 := (w.1 0 (by decide)).2.2.1 (by decide) (by decide)
    have L1 : CL h1 [] G MT st x fk fp := by
      obtain ⟨e1, e2, e3, e4, e5, e6, e7⟩ := L
      refine ⟨y1, by rw [nr 2 (by omega)]; exact e2, by rw [nr 80 (by omega)]; exact e3, by rw [i0]; exact e4, by rw [i0]; exact e5, by rw [i0]; exact e6, ?_⟩
      rw [w.2.1 (by decide) 15 (by decide) (by decide)]
      exact e7
    rcases M_save C1.1.1 ok o2 D1.2.1 D1.2.2.2.1 D1.1 P.1.ok (P.2.1 0 (by decide)) (P.2.1 1 (by decide)) (P.1.2.2.1 hst).1 na1.2 ⟨by omega, na4.2⟩ na5 na6.2 D1.2.2.1 st E1.2.2.2.1 T E1.1 hl hr G E1.2.1 (by omega) (by omega) (by omega) (by omega) with ⟨-, h2, a2, t1, f2, w1, km, zr, ar, hi, S, okS, o2S⟩ | ⟨c', -⟩
    · have A2 : AgCl h1 h2 := f2.cl (by decide)
      have n2 : ∀ q, q = 96 ∨ q = 97 ∨ q = 98 ∨ q = 99 ∨ q = 100 ∨ q = 101 ∨ q = 108 ∨ q = 134 ∨ q = 135 → hI h2 q = hI h1 q := fun q hq => f2.2.2.2.2.1 q (by
        simp only [List.mem_cons, List.not_mem_nil, or_false]
        omega) (by omega)
      have n5 : ∀ k, k = 13 ∨ k = 65 ∨ k = 32 ∨ k = 10 ∨ k = 11 → hI h2 95 k = hI h1 95 k := fun k hk => f2.2.2.2.2.2.1 k (by
        simp only [List.mem_cons, List.not_mem_nil, or_false]
        omega)
      have ex : ExK K (savK nu ts T (svE nu ts K T) K) := S.ex _ _ _
      refine ⟨_, h1, h2, q1, t1, C1.1.1, r, r', nu, ts, im, savK nu ts T (svE nu ts K T) K, cf ++ B, PF ++ A, pK Ks K u, u - psh u + 1, m1, (pn + 1) % 20, bk, nu, ts, a2, pM M (hI h1 109) u, [], G, MT, st, x, fk, fp, C1.m A2, L1.m A2, ⟨?_, km, hi, zr, fun i hi => ?_⟩, ?_, ?_, V⟩
      · have c1 := D1.1
        unfold RuM CdM at c1 ⊢
        rw [n2 97 (by omega), n2 98 (by omega), n2 99 (by omega), n2 100 (by omega), n2 101 (by omega), n5 13 (by omega)]
        exact c1
      · unfold pM pK
        by_cases z : i = u - psh u
        · rw [if_pos z, if_pos z]
          have e0 : hI (sA h1 109 (hI h1 109)) = hI h1 := by
            funext q
            rw [hI_sA]
            by_cases z : q = 109
            · rw [z, u1_eq]
            · rw [u1_ne z]
          have k1 : KM (sA h1 109 (hI h1 109)) K := KM.eq (h := h1) D1.2.1 (fun q hq => by rw [e0])
          have z1 : ZrM (sA h1 109 (hI h1 109)) K := ZrM.eq (h := h1) D1.2.2.2.1 (by rw [e0])
          exact ⟨k1.ar z1 ar (ExK.rf K), ZrM.eq z1 (by rw [hI_sA, hI_sA, u1_eq, u1_eq])⟩
        · rw [if_neg z, if_neg z]
          have d := D1.2.2.2.2 (i + psh u) (by omega)
          exact ⟨d.1.ar d.2 ar (ch.now (by omega)).1, ZrM.eq d.2 (by rw [hI_sA, hI_sA, u1_eq, u1_eq])⟩
      · obtain ⟨e1, e2, e3, e4, e5, e6, e7⟩ := E1
        refine ⟨⟨w1, fun i hi => absurd hi (Nat.not_lt_zero _)⟩, ?_, ?_, by rw [n5 32 (by omega)]; exact e4, by rw [n5 10 (by omega)]; exact e5, by rw [n5 11 (by omega)]; exact e6, by rw [f2.2.2.2.2.2.2 95 (by decide)]; exact e7⟩
        · unfold RefM
          rw [n2 108 (by omega)]
          exact e2
        · unfold MetM
          rw [n5 65 (by omega), n2 134 (by omega), n2 135 (by omega)]
          exact e3
      · obtain ⟨p1, p2, p3, p4, p5, p6, p7, p8, p9, p10, p11, p12⟩ := P
        obtain ⟨s1, s2, s3, s4, s5, ⟨s6, s6'⟩, s7, ⟨s8, s8'⟩, s9, s10, s11, s12, s13, s14, s15, s16, s17⟩ := S
        have ek : (kK (savK nu ts T (svE nu ts K T) K)).length = (kK K).length + 1 := by
          show (kK (savR nu ts T (svE nu ts K T) K).1 ++ [_]).length = _
          rw [List.length_append, s16]; rfl
        have eP : kP (savK nu ts T (svE nu ts K T) K) = kP (savR nu ts T (svE nu ts K T) K).1 := rfl
        have eU : kU (savK nu ts T (svE nu ts K T) K) = kU (savR nu ts T (svE nu ts K T) K).1 := rfl
        have eN : byN (savK nu ts T (svE nu ts K T) K) = byN (savR nu ts T (svE nu ts K T) K).1 := rfl
        refine ⟨p1, p2, o2S, fun i hi => ?_, p5.act hu ex (by rw [ek]; exact Nat.le_refl _), fun z => (by rw [hst] at z; cases z), p7, fun y hy => absurd hy (by simp), Nat.zero_le _, p10, p11, ?_⟩
        · unfold pK
          by_cases c : i = u - psh u
          · rw [if_pos c]; exact ⟨ok, p3⟩
          · rw [if_neg c]; exact p4 (i + psh u) (by omega)
        · unfold NB
          rw [ek, eP, eU, eN, List.flatten_append, List.length_append, List.length_append, List.length_append, List.length_nil]
          exact ⟨by omega, by omega, by omega, by omega, by omega, by omega, by omega⟩
    · exact absurd c c'
  · have f1c : FrC [1, 2, 25, 26, r + 4, r + 11] [] h h1 := f1.c
    obtain ⟨C1, D1, E1⟩ := lig1 C D E f1c (fun q hq => by
      unfold scR
      simp only [List.mem_cons, List.not_mem_nil, or_false] at hq ⊢
      omega) (by simp) (fun k _ => by rw [f1.2.2.2.1]) R1
    have L1 : CL h1 [] (bump G 3) MT st x fk fp := by
      obtain ⟨e1, e2, e3, e4, e5, e6, e7⟩ := L
      have e80 : hR h1 80 = hR h 80 := f1.2.2.2.2.2 80 (by
        simp only [List.mem_cons, List.not_mem_nil, or_false]
        omega)
      exact ⟨y1, y2, by rw [e80]; exact e3, by rw [f1.2.2.2.1]; exact e4, by rw [f1.2.2.2.1]; exact e5, by rw [f1.2.2.2.1]; exact e6, by rw [f1.2.2.2.1]; exact e7⟩
    have mm : ∃ h2, mX12_save [.ref 95] h1 = some (some (.int (iI (-1))), h2) ∧ FrM [108, 120, 121, 122, 123] [1, 51, 53] h1 h2 ∧ hI h2 95 1 = iI 0 ∧ hI h2 108 = u1 (hI h1 108) 3 (iI (G.getD 3 0 + 1)) := by
      cases st with
      | false => exact M_save0 C1.1.1 E1.2.2.2.1 T E1.1 hl G E1.2.1
      | true =>
        obtain ⟨v1, v2⟩ := V.2.2.2.2 rfl
        rw [v1, v2] at D1
        rcases M_save C1.1.1 ok o2 D1.2.1 D1.2.2.2.1 D1.1 P.1.ok (P.2.1 0 (by decide)) (P.2.1 1 (by decide)) (P.1.2.2.1 rfl).1 na1.2 ⟨by omega, na4.2⟩ na5 na6.2 D1.2.2.1 true E1.2.2.2.1 T E1.1 hl hr G E1.2.1 (by omega) (by omega) (by omega) (by omega) with ⟨c', -⟩ | ⟨-, z⟩
        · exact absurd c' c
        · exact z
    obtain ⟨h2, t1, f2, v1, v2⟩ := mm
    obtain ⟨C2, D2, A2⟩ := lig2 C1 D1 f2 (by decide) (by decide)
    have i5 : ∀ k, k = 32 ∨ k = 10 ∨ k = 11 ∨ k = 65 → hI h2 95 k = hI h1 95 k := fun k hk => f2.2.2.2.2.2.1 k (by
      simp only [List.mem_cons, List.not_mem_nil, or_false]
      omega)
    refine ⟨_, h1, h2, q1, t1, C1.1.1, r, r', nu, ts, idm, K, cf, PF, Ks, u, m, pn, bk, nv, tv, a, M, [], bump G 3, MT, st, x, fk, fp, C2, L1.m A2, D2, ?_, P.tape (Nat.zero_le _) (fun y hy => absurd hy (by simp)) (bump6 G6 3) P.2.2.2.2.2.2.1, V⟩
    obtain ⟨e1, e2, e3, e4, e5, e6, e7⟩ := E1
    refine ⟨⟨v1, fun i hi => absurd hi (Nat.not_lt_zero _)⟩, RefM_u1 G6 e2 3 (by decide) v2, ?_, by rw [i5 32 (by omega)]; exact e4, by rw [i5 10 (by omega)]; exact e5, by rw [i5 11 (by omega)]; exact e6, by rw [f2.2.2.2.2.2.2 95 (by decide)]; exact e7⟩
    unfold MetM
    rw [i5 65 (by omega), f2.2.2.2.2.1 134 (by decide) (by decide), f2.2.2.2.2.1 135 (by decide) (by decide)]
    exact e3
