/-! ===== L2: op box ===== -/
/-- a test of the rules was asked -/
theorem ClsX.ru {h h' : AH} {r : Nat} {nu : List Int} {ts : Nat → List (Int × Int)} {idm : Nat → Nat} {K : KT} {cf : List (List Int)} {PF : List Int} (X : ClsX h r nu ts idm K cf PF) (f : FrR [r + 10, r + 11] h h') (C : RuC h' r nu ts) : ClsX h' r nu ts idm K cf PF := by
  obtain ⟨x1, x2, x3, -, x5, x6, ⟨s1, s2, s3, s4, s5, s6, s7, ⟨D, O, s8, s9, s10⟩, s11, s12⟩, ⟨v1, v2, v3, v4, v5, v6, PS, v7, v8⟩, ⟨m1, m2, m3, m4, m5⟩⟩ := X
  have k : ∀ q, q ∉ [22, 23, 93, 94] → hR h' q = hR h q := fun q hq => f.2.2.2.2.2 q (fun z => hq (by
    rcases x2 with rfl | rfl
    · have : q = 22 ∨ q = 23 := by simpa using z
      rcases this with rfl | rfl <;> decide
    · have : q = 93 ∨ q = 94 := by simpa using z
      rcases this with rfl | rfl <;> decide))
  have fi := f.2.2.2.1
  refine ⟨f.gr x1, x2, by rw [f.2.2.1]; exact x3, C, x5, x6, ⟨?_, ?_, ?_, ?_, ?_, ?_, ?_, ⟨D, O, ?_, ?_, s10⟩, ?_, ?_⟩, ⟨?_, ?_, ?_, v4, v5, v6, PS, ?_, v8⟩, ⟨?_, ?_, ?_, ?_, m5⟩⟩
  all_goals first
    | (rw [fi]; exact s12)
    | (rw [k _ (by decide)]; assumption)
theorem bxD_at {h : AH} (g : Gr h) {idm : Nat → Nat} {K : KT} (ok : KOk K) (S : StC h 49 idm K) (j : Nat) (hj : j < (kX K).length) : mX5_at [.ref 55, .int (iI j)] h = some (some (.int (iI (bxD K j))), h) ∧ mX5_at [.ref 54, .int (iI j)] h = some (some (.int (iI (bxB K j))), h) ∧ mX5_at [.ref 56, .int (iI j)] h = some (some (.int (iI (brk K j))), h) := by
  have hfl := ok.2.2.2.1
  have hxl := kX_len ok
  have gm : ∀ f : (Int × Int × List Nat) → Int, gt ((kX K).map f) j = f ((kX K).getD j (0, 0, [])) := fun f => by
    rw [gt_nat, List.getD_eq_getElem?_getD, List.getElem?_map, List.getD_eq_getElem?_getD, List.getElem?_eq_getElem hj]; rfl
  refine ⟨?_, ?_, ?_⟩
  · have e := u_at h 55 (iI j)
    rw [S.2.2.2.2.2.1, rowAt_mI ⟨by omega, by omega⟩ (by rw [List.length_map]; omega), gm, gT55 g, if_pos rfl] at e
    exact e
  · have e := u_at h 54 (iI j)
    rw [S.2.2.2.2.1] at e
    unfold bxByt at e
    rw [rowAt_mI ⟨by omega, by omega⟩ (by rw [List.length_map]; omega), gm, gT54 g, if_pos rfl] at e
    exact e
  · have e := u_at h 56 (iI j)
    rw [S.2.2.2.2.2.2.1, rowAt_mI ⟨by omega, by omega⟩ (by rw [List.length_map]; omega), gT56 g, if_pos rfl] at e
    exact e
theorem lvY_box {K : KT} (nu : List Int) {j : Nat} : lvY K (lvB K nu 0 12) (fst (kX K) j) (itm (kX K) j).length = bxL K nu j := by
  unfold lvY bxL
  have key : ∀ n, n ≤ (itm (kX K) j).length → sumN (fun i => if lvB K nu 0 12 ((flat K).getD (fst (kX K) j + i) 0) = true then pLen K ((flat K).getD (fst (kX K) j + i) 0) else 0) n = (((itm (kX K) j).take n).map fun p => if lvB K nu 0 12 p = true then pLen K p else 0).sum := by
    intro n
    induction n with
    | zero => intro _; rfl
    | succ n ih =>
      intro hn
      rw [map_take_sum _ _ n (by omega), ← ih (by omega), ← itm_flat (show n < (itm (kX K) j).length by omega)]
      rfl
  rw [key _ (Nat.le_refl _), List.take_length]
theorem c_isMarked {h : AH} {r : Nat} {nu : List Int} {ts : Nat → List (Int × Int)} {idm : Nat → Nat} {K : KT} {cf : List (List Int)} {PF : List Int} (X : ClsX h r nu ts idm K cf PF) (ht : tsOk 2 (ts 2)) (hA : hR h 47 = mI (mk (flat K) (lvB K nu 0 12))) (j : Nat) (hj : j < (kX K).length) : ∃ h', mX10_isMarkedForCleaning [.ref 11, .int (iI j)] h = some (some (.int (iI (foul K nu ts j))), h') ∧ FrR [r + 10, r + 11] h h' ∧ RuC h' r nu ts := by
  have g0 := X.1
  have gr := X.gr
  have ok := X.2.2.2.2.2.1
  have S := X.2.2.2.2.2.2.1
  have hfl := ok.2.2.2.1
  have hxl := kX_len ok
  have hff := fst_fl hj
  have hd := ok.1
  have x3 := X.2.2.1
  have sd := S.2.2.2.2.2.2.2.2.2.1
  obtain ⟨e1, e2⟩ := c_boxEnd g0 ok S j hj
  obtain ⟨e3, e4, -⟩ := bxD_at g0 ok S j hj
  rw [fst_succ (kX K) j hj] at e1
  have e5 := c_liveBytes X (lvB K nu 0 12) hA (fst (kX K) j) (fst (kX K) j + (itm (kX K) j).length) (by omega) hff
  rw [Nat.add_sub_cancel_left, lvY_box] at e5
  obtain ⟨r1, r2, r3⟩ := bx_rg ok nu hj
  obtain ⟨z1, h', z2, z3, z4⟩ := c_forClean gr ht X.2.2.2.1 (kD K) (bxL K nu j) (bxB K j - bxL K nu j) (kD K - bxD K j) hd r1 r2 ⟨by omega, by omega⟩
  have gr1 := gr.1
  have z5 : foul K nu ts j = cval ts (kD K) (bxL K nu j) (bxB K j - bxL K nu j) (kD K - bxD K j) := rfl
  rw [← z5] at z1 z2
  refine ⟨h', ?_, z3, z4⟩
  rcases z1 with z1 | z1 <;> rw [z1] at z2 ⊢ <;> simp -implicitDefEqProofs (disch := omega) only [bind_ite, ev_itea, ev_seq, ev_seq0, ev_seq1, ev_seq2, ev_seqr, ev_if, ev_ift, ev_iff, ev_ifd, ev_ife, ev_ifet, ev_ifef, ev_ifed, ev_skip, ev_cont, ev_brk, ev_retV, ev_retI, ev_retIv, ev_retL, ev_retLv, ev_retR, ev_retRv, ev_for, ev_for0, ev_for2, ev_for1, ev_forr, ev_sc, ev_scv, ev_ex, ev_exv, ev_lsI, ev_lsIv, ev_lsL, ev_lsLv, ev_lsR, ev_lsRv, ev_ciI, ev_clL, ev_lvI0, ev_lvL0, ev_lvR0, ev_inc0, ev_s1_0, ev_s2_0, ev_lvI1, ev_lvL1, ev_lvR1, ev_inc1, ev_s1_1i, ev_s2_1i, ev_s1_1r, ev_s2_1r, ev_s1_1u, ev_s2_1u, ev_s1_1s, ev_s2_1s, ev_lvI2, ev_lvL2, ev_lvR2, ev_inc2, ev_s1_2i, ev_s2_2i, ev_s1_2r, ev_s2_2r, ev_s1_2u, ev_s2_2u, ev_s1_2s, ev_s2_2s, ev_lvI3, ev_lvL3, ev_lvR3, ev_inc3, ev_s1_3i, ev_s2_3i, ev_s1_3r, ev_s2_3r, ev_s1_3u, ev_s2_3u, ev_s1_3s, ev_s2_3s, ev_lvI4, ev_lvL4, ev_lvR4, ev_inc4, ev_s1_4i, ev_s2_4i, ev_s1_4r, ev_s2_4r, ev_s1_4u, ev_s2_4u, ev_s1_4s, ev_s2_4s, ev_lvI5, ev_lvL5, ev_lvR5, ev_inc5, ev_s1_5i, ev_s2_5i, ev_s1_5r, ev_s2_5r, ev_s1_5u, ev_s2_5u, ev_s1_5s, ev_s2_5s, ev_lvI6, ev_lvL6, ev_lvR6, ev_inc6, ev_s1_6i, ev_s2_6i, ev_s1_6r, ev_s2_6r, ev_s1_6u, ev_s2_6u, ev_s1_6s, ev_s2_6s, ev_lvI7, ev_lvL7, ev_lvR7, ev_inc7, ev_s1_7i, ev_s2_7i, ev_s1_7r, ev_s2_7r, ev_s1_7u, ev_s2_7u, ev_s1_7s, ev_s2_7s, ev_lvI8, ev_lvL8, ev_lvR8, ev_inc8, ev_s1_8i, ev_s2_8i, ev_s1_8r, ev_s2_8r, ev_s1_8u, ev_s2_8u, ev_s1_8s, ev_s2_8s, ev_lvI9, ev_lvL9, ev_lvR9, ev_inc9, ev_s1_9i, ev_s2_9i, ev_s1_9r, ev_s2_9r, ev_s1_9u, ev_s2_9u, ev_s1_9s, ev_s2_9s, ev_lvI10, ev_lvL10, ev_lvR10, ev_inc10, ev_s1_10i, ev_s2_10i, ev_s1_10r, ev_s2_10r, ev_s1_10u, ev_s2_10u, ev_s1_10s, ev_s2_10s, ev_lvI11, ev_lvL11, ev_lvR11, ev_inc11, ev_s1_11i, ev_s2_11i, ev_s1_11r, ev_s2_11r, ev_s1_11u, ev_s2_11u, ev_s1_11s, ev_s2_11s, ev_lvI12, ev_lvL12, ev_lvR12, ev_inc12, ev_s1_12i, ev_s2_12i, ev_s1_12r, ev_s2_12r, ev_s1_12u, ev_s2_12u, ev_s1_12s, ev_s2_12s, ev_lvI13, ev_lvL13, ev_lvR13, ev_inc13, ev_s1_13i, ev_s2_13i, ev_s1_13r, ev_s2_13r, ev_s1_13u, ev_s2_13u, ev_s1_13s, ev_s2_13s, ev_cut1_0, ev_cut1_1, ev_cut2_0, ev_cut2_1, ev_cut2_2, ev_cut3_0, ev_cut3_1, ev_cut3_2, ev_cut3_3, ev_cut4_0, ev_cut4_1, ev_cut4_2, ev_cut4_3, ev_cut4_4, ev_cut5_0, ev_cut5_1, ev_cut5_2, ev_cut5_3, ev_cut5_4, ev_cut5_5, ev_cut6_0, ev_cut6_1, ev_cut6_2, ev_cut6_3, ev_cut6_4, ev_cut6_5, ev_cut6_6, ev_cut7_0, ev_cut7_1, ev_cut7_2, ev_cut7_3, ev_cut7_4, ev_cut7_5, ev_cut7_6, ev_cut7_7, ev_cut8_0, ev_cut8_1, ev_cut8_2, ev_cut8_3, ev_cut8_4, ev_cut8_5, ev_cut8_6, ev_cut8_7, ev_cut8_8, ev_cut9_0, ev_cut9_1, ev_cut9_2, ev_cut9_3, ev_cut9_4, ev_cut9_5, ev_cut9_6, ev_cut9_7, ev_cut9_8, ev_cut9_9, ev_cut10_0, ev_cut10_1, ev_cut10_2, ev_cut10_3, ev_cut10_4, ev_cut10_5, ev_cut10_6, ev_cut10_7, ev_cut10_8, ev_cut10_9, ev_cut10_10, ev_cut11_0, ev_cut11_1, ev_cut11_2, ev_cut11_3, ev_cut11_4, ev_cut11_5, ev_cut11_6, ev_cut11_7, ev_cut11_8, ev_cut11_9, ev_cut11_10, ev_cut11_11, ev_cut12_0, ev_cut12_1, ev_cut12_2, ev_cut12_3, ev_cut12_4, ev_cut12_5, ev_cut12_6, ev_cut12_7, ev_cut12_8, ev_cut12_9, ev_cut12_10, ev_cut12_11, ev_cut12_12, ev_cut13_0, ev_cut13_1, ev_cut13_2, ev_cut13_3, ev_cut13_4, ev_cut13_5, ev_cut13_6, ev_cut13_7, ev_cut13_8, ev_cut13_9, ev_cut13_10, ev_cut13_11, ev_cut13_12, ev_cut13_13, ev_bin, ev_addI, ev_addIv, ev_subI, ev_subIv, ev_mulI, ev_mulIv, ev_andI, ev_andIv, ev_orI, ev_orIv, ev_xorI, ev_xorIv, ev_shlI, ev_shlIv, ev_shrI, ev_shrIv, ev_ushrI, ev_ushrIv, ev_addL, ev_addLv, ev_subL, ev_subLv, ev_mulL, ev_mulLv, ev_andL, ev_andLv, ev_orL, ev_orLv, ev_shlL, ev_shlLv, ev_divI, ev_divIv, ev_remI, ev_remIv, ev_divL, ev_divLv, ev_remL, ev_remLv, ev_eqI, ev_eqIv, ev_eqL, ev_eqLv, ev_eq0, ev_eq0v, ev_neI, ev_neIv, ev_neL, ev_neLv, ev_ne0, ev_ne0v, ev_ltI, ev_ltIv, ev_ltL, ev_ltLv, ev_lt0, ev_lt0v, ev_geI, ev_geIv, ev_geL, ev_geLv, ev_ge0, ev_ge0v, ev_gtI, ev_gtIv, ev_gtL, ev_gtLv, ev_gt0, ev_gt0v, ev_leI, ev_leIv, ev_leL, ev_leLv, ev_le0, ev_le0v, ev_i2L, ev_i2Lv, ev_l2I, ev_l2Iv, ev_nul, ev_nuls, ev_nuln, ev_andX, ev_andXt, ev_andXf, ev_andXd, ev_orX, ev_orXt, ev_orXf, ev_orXd, ev_notX, ev_notXv, ev_notd, ev_iteX, ev_iteXt, ev_iteXf, ev_iteXd, ev_getI, ev_getIv, ev_getL, ev_getLv, ev_getR, ev_getRv, ev_rsz, ev_rszv, ev_aldI, ev_aldIq, ev_aldIv, ev_aldL, ev_aldLq, ev_aldLv, ev_aldR, ev_aldRq, ev_aldRv, ev_aln, ev_putI, ev_putIq, ev_putIv, ev_putZ, ev_putZq, ev_putZv, ev_putL, ev_putLq, ev_putLv, ev_putR, ev_putRq, ev_putRv, ev_astI, ev_astIq, ev_astIi, ev_astIv, ev_astZ, ev_astZq, ev_astZi, ev_astZv, ev_astL, ev_astLq, ev_astLi, ev_astLv, ev_astR, ev_upd, ev_updq, ev_updv, ev_ina, ev_inaq, ev_inav, ev_rzs, ev_rzsq, ev_rzsv, ev_sw, ev_swx, ev_swr, ev_agN, ev_agC, ev_agi, ev_agl, ev_agr, ev_ag2, ev_calX, ev_calv, ev_decI, ev_decL, ev_decR, ev_calS, ev_clsv, ev_clsd, ev_ck0, ev_ck1, ev_cs1, ev_ck2, ev_cs2, ev_ck3, ev_cs3, ev_ck4, ev_cs4, ev_ck5, ev_cs5, ev_finV, ev_finI, ev_finL, ev_finR, ev_fin1, ev_fin0, ev_finZ, ev_newO, ev_newv, ev_newR, ev_newA, ev_newAv, ev_oi, ev_oiv, Option.bind_some, Option.bind_none, Option.bind_fun_some, reduceCtorEq, reduceIte, List.take_zero, Sum.inl.injEq, Sum.inr.injEq, Option.some.injEq, Prod.mk.injEq, Nat.reduceEqDiff, Nat.reduceAdd, Nat.reduceSub, Nat.reduceMul, Nat.reduceLT, Nat.reduceLeDiff, decide_true, decide_false, decide_eq_true_eq, decide_eq_false_iff_not, Bool.and_true, Bool.true_and, Bool.and_false, Bool.false_and, Bool.false_or, Bool.or_false, Bool.true_or, Bool.or_true, Bool.and_self, Bool.or_self, true_or, or_true, and_true, true_and, false_and, and_false, false_or, or_false, not_true_eq_false, not_false_eq_true, Bool.not_true, Bool.not_false, Bool.false_eq_true, and_self, ite_true, ite_false, eq_self, hT_sR, hP_sR, hI_sR, hL_sR, hN_sR, hR_sRu, hT_sI, hP_sI, hR_sI, hL_sI, hN_sI, hI_sI, hT_sL, hP_sL, hR_sL, hI_sL, hN_sL, hL_sL, hT_sP, hR_sP, hI_sP, hL_sP, hN_sP, hP_sP, u1_app, u2_app, hT_sA, hP_sA, hR_sA, hL_sA, hN_sA, hI_sA, sI_sA, sI_sI, sA_sA, sA_sI, hT_sLA, hP_sLA, hR_sLA, hI_sLA, hN_sLA, hL_sLA, sL_sLA, eX10_isMarkedForCleaning, bX10_isMarkedForCleaning, gT0 g0, gT1 g0, gT2 g0, gT3 g0, gT4 g0, gT5 g0, gT6 g0, gT7 g0, gT8 g0, gT9 g0, gT10 g0, gT11 g0, gT12 g0, gT13 g0, gT14 g0, gT15 g0, gT16 g0, gT17 g0, gT18 g0, gT19 g0, gT20 g0, gT21 g0, gT22 g0, gT23 g0, gT24 g0, gT25 g0, gT26 g0, gT27 g0, gT28 g0, gT29 g0, gT30 g0, gT31 g0, gT32 g0, gT33 g0, gT34 g0, gT35 g0, gT36 g0, gT37 g0, gT38 g0, gT39 g0, gT40 g0, gT41 g0, gT42 g0, gT43 g0, gT44 g0, gT45 g0, gT46 g0, gT47 g0, gT48 g0, gT49 g0, gT50 g0, gT51 g0, gT52 g0, gT53 g0, gT54 g0, gT55 g0, gT56 g0, gT57 g0, gT58 g0, gT59 g0, gT60 g0, gT61 g0, gT62 g0, gT63 g0, gT64 g0, gT65 g0, gT66 g0, gT67 g0, gT68 g0, gT69 g0, gT70 g0, gT71 g0, gT72 g0, gT73 g0, gT74 g0, gT75 g0, gT76 g0, gT77 g0, gT78 g0, gT79 g0, gT80 g0, gT81 g0, gT82 g0, gT83 g0, gT84 g0, gT85 g0, gT86 g0, gT87 g0, gT88 g0, gT89 g0, gT90 g0, gT91 g0, gT92 g0, gT93 g0, gT94 g0, gP0_0 g0, gP0_1 g0, gP0_2 g0, gP0_3 g0, gP0_4 g0, gP0_5 g0, gP3_0 g0, gP3_1 g0, gP3_2 g0, gP3_3 g0, gP8_0 g0, gP8_1 g0, gP11_1 g0, gP11_2 g0, gP11_3 g0, gP11_4 g0, gP11_5 g0, gP11_6 g0, gP11_7 g0, gP11_8 g0, gP11_9 g0, gP11_10 g0, gP11_11 g0, gP11_12 g0, gP11_16 g0, gP11_17 g0, gP11_18 g0, gP12_0 g0, gP12_1 g0, gP12_2 g0, gP12_3 g0, gP12_4 g0, gP14_0 g0, gP14_1 g0, gP17_0 g0, gP17_1 g0, gP20_0 g0, gP20_1 g0, gP24_0 g0, gP24_1 g0, gP27_0 g0, gP27_1 g0, gP27_2 g0, gP27_3 g0, gP27_4 g0, gP27_5 g0, gP27_6 g0, gP27_7 g0, gP36_0 g0, gP36_1 g0, gP36_2 g0, gP36_3 g0, gP36_4 g0, gP36_5 g0, gP49_0 g0, gP49_1 g0, gP49_2 g0, gP49_3 g0, gP49_4 g0, gP49_5 g0, gP49_6 g0, gP49_7 g0, gP49_8 g0, gP49_9 g0, gP60_0 g0, gP60_1 g0, gP60_2 g0, gP60_3 g0, gP60_4 g0, gP60_5 g0, gP60_6 g0, gP60_7 g0, gP60_8 g0, gP60_9 g0, gP75_0 g0, gP75_1 g0, gP75_2 g0, gP79_0 g0, gP79_1 g0, gP79_2 g0, gP83_0 g0, gP83_1 g0, gP83_2 g0, gP83_3 g0, gP83_4 g0, gP85_0 g0, gP85_1 g0, gP88_0 g0, gP88_1 g0, gP91_0 g0, gP91_1 g0, iI_lt2, iI_le2, iI_eq2, iI_lt0, iI_0lt, iI_le0, iI_0le, iI_eq0, iI_eq1, iI_nat2, iI_add, iI_sub, iI_mul, Int.toNat_natCast, if_pos, if_neg, e1, e2, e3, e4, e5, sd, x3, gr1, z2]
def o_box (K : KT) (nu : List Int) (ts : Nat → List (Int × Int)) (j w : Int) : Int :=
  if 0 ≤ j ∧ j < (kX K).length then
    (if w = 0 then bxB K j.toNat else if w = 1 then ((itm (kX K) j.toNat).length : Int) else if w = 2 then ((itm (kX K) j.toNat).map fun p => if lvB K nu 0 12 p = true then 1 else 0).sum
     else if w = 3 then kD K - bxD K j.toNat else if w = 4 then brk K j else if w = 5 then foul K nu ts j.toNat else -1)
  else -1
