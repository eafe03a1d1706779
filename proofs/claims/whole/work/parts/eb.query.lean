/-! ===== L2: the calls that only ask (by mkeb.py) ===== -/
section
variable {h h1 h2 : AH} {r r' : Nat} {nu nv : List Int} {ts tv : Nat → List (Int × Int)} {idm : Nat → Nat} {K : KT} {cf : List (List Int)} {PF : List Int} {Ks : Nat → KT} {u m pn bk : Nat} {a : Nat → Nat} {M : Nat → Nat → Int32} {T G MT : List Int} {st : Bool} {x fk fp : Int}
def scQ (r : Nat) : List Nat := [25, 26, 47, 48, 60, 61, 62, 63, 64, 65, 66, 67, 68, 69, 70, 76, 77, 78, 81, 82, r + 4, r + 7, r + 10, r + 11]
theorem scQ_R (r : Nat) : ∀ q ∈ scQ r, q ∈ scR r := fun q hq => by
  unfold scQ at hq
  unfold scR
  simp only [List.mem_cons, List.not_mem_nil, or_false] at hq ⊢
  omega
theorem qry (C : CK h r r' nu ts idm K cf PF Ks u m pn) (L : CL h T G MT st x fk fp) (D : MK h bk nv tv K Ks u a M) (E : ML h T G MT st x fk fp) {S O : List Nat} (f : FrC S O h h1) (hS : ∀ q ∈ S, q ∈ scQ r) (hO : ∀ q ∈ O, q = 60) (R : RuC h1 r nu ts) : CK h1 r r' nu ts idm K cf PF Ks u m pn ∧ CL h1 T G MT st x fk fp ∧ MK h1 bk nv tv K Ks u a M ∧ ML h1 T G MT st x fk fp := by
  have A : AgRe h h1 := f.re (fun q hq => by rw [hO q hq]; decide)
  have rr : r = 12 ∨ r = 83 := C.1.2.1
  have n : ∀ q, q ∈ [1, 2, 80] → hR h1 q = hR h q := fun q hq => f.2.2.2.2.2 q (fun z => by
    have := hS q z
    unfold scQ at this
    simp only [List.mem_cons, List.not_mem_nil, or_false] at hq this
    omega)
  have i : ∀ q, q ≠ 60 → hI h1 q = hI h q := fun q hq => f.2.2.2.2.1 q (fun z => hq (hO q z))
  refine ⟨C.q f (fun q hq => scQ_R r q (hS q hq)) (fun q hq => by rw [hO q hq]; omega) (fun k _ => by rw [i 11 (by decide)]) R, ?_, D.re A, E.re A⟩
  unfold CL
  rw [n 1 (by decide), n 2 (by decide), n 80 (by decide), i 0 (by decide), i 11 (by decide)]
  exact L
theorem LogS.fr {S S5 : List Nat} (f : FrM S S5 h1 h2) (h0 : 110 ∉ S) (h1' : 111 ∉ S) : LogS h1 h2 := fun n _ _ j _ => by
  rw [f.2.2.2.2.1 110 h0 (by decide), f.2.2.2.2.1 111 h1' (by decide)]
  exact ⟨rfl, rfl⟩
theorem qry2 (C : CK h1 r r' nu ts idm K cf PF Ks u m pn) (L : CL h1 T G MT st x fk fp) (D : MK h1 bk nv tv K Ks u a M) (E : ML h1 T G MT st x fk fp) {S S5 : List Nat} (f : FrM S S5 h1 h2) (hS : ∀ q ∈ S, q ∈ [110, 111, 120, 121, 122, 123, 124, 125, 126, 127, 128, 129, 130, 131, 132, 133, 136]) (h5 : ∀ k ∈ S5, k ∈ [51, 53, 59]) (l : LogS h1 h2) : CK h2 r r' nu ts idm K cf PF Ks u m pn ∧ CL h2 T G MT st x fk fp ∧ MK h2 bk nv tv K Ks u a M ∧ ML h2 T G MT st x fk fp := by
  have rg : ∀ q ∈ S, 110 ≤ q ∧ q < 137 := fun q hq => by
    have := hS q hq
    simp only [List.mem_cons, List.not_mem_nil, or_false] at this
    omega
  have A : AgCl h1 h2 := f.cl (fun q hq => by have := rg q hq; omega)
  have e : ∀ q, q ≠ 95 → (q < 110 ∨ (112 ≤ q ∧ q < 120) ∨ q = 134 ∨ q = 135) → hI h2 q = hI h1 q := fun q h95 hq => f.2.2.2.2.1 q (fun z => by
    have := hS q z
    simp only [List.mem_cons, List.not_mem_nil, or_false] at this
    omega) h95
  have e5 : ∀ k, k ≠ 51 → k ≠ 53 → k ≠ 59 → hI h2 95 k = hI h1 95 k := fun k k1 k2 k3 => f.2.2.2.2.2.1 k (fun z => by
    have := h5 k z
    simp only [List.mem_cons, List.not_mem_nil, or_false] at this
    omega)
  refine ⟨C.m A, L.m A, D.q (fun q hq => e q ?_ ?_) ⟨e5 13 (by decide) (by decide) (by decide), e5 37 (by decide) (by decide) (by decide), e5 39 (by decide) (by decide) (by decide)⟩ l, ?_⟩
  · intro z; rw [z] at hq; exact absurd hq (by decide)
  · simp only [List.mem_cons, List.not_mem_nil, or_false] at hq
    omega
  · unfold ML TapeM RefM MetM
    rw [e 96 (by decide) (by decide), e 108 (by decide) (by decide), e 134 (by decide) (by decide), e 135 (by decide) (by decide), e5 1 (by decide) (by decide) (by decide), e5 65 (by decide) (by decide) (by decide), e5 32 (by decide) (by decide) (by decide), e5 10 (by decide) (by decide) (by decide), e5 11 (by decide) (by decide) (by decide), f.2.2.2.2.2.2 95 (fun z => by have := rg 95 z; omega)]
    exact E
theorem RuC.q (C : CK h r r' nu ts idm K cf PF Ks u m pn) {S O : List Nat} (f : FrC S O h h1) (hS : ∀ q ∈ S, q ∈ [25, 26, 47, 48, 76, 77, 78, 81, 82]) : RuC h1 r nu ts := by
  refine C.1.2.2.2.1.frC f ?_
  have rr : r = 12 ∨ r = 83 := C.1.2.1
  have k : ∀ q, q < 25 ∨ 82 < q → q ∉ S := fun q hq z => by
    have := hS q z
    simp only [List.mem_cons, List.not_mem_nil, or_false] at this
    omega
  exact ⟨k _ (by omega), k _ (by omega), k _ (by omega), k _ (by omega), k _ (by omega)⟩
theorem HiM.room {h : AH} {a : Nat → Nat} {M : Nat → Nat → Int32} {u : Nat} (H : HiM h a M u) : a u + 2401 ≤ 60000 := by
  have := H.le u (Nat.le_refl _)
  have := H.1
  omega
end
/-- without a store: no box, no backup -/
def EZ (st : Bool) (K : KT) : Prop := st = false → kX K = [] ∧ ∀ b, bF K b = false
theorem noBk {K : KT} (z : ∀ b, bF K b = false) (b : Int) : ¬ 0 < cnt K b := fun h => by
  unfold cnt at h
  rw [z] at h
  split at h
  · rw [if_neg (by decide)] at h; exact absurd h (by decide)
  · exact absurd h (by decide)
section
variable {st : Bool} {nu nv : List Int} {ts tv : Nat → List (Int × Int)} {K : KT}
theorem o_has_v (Z : EZ st K) (V : VL st nu ts nv tv) (hn : st = false → nu.getD 0 0 = 0) {mm u sd w : Int} : o_has K nv mm u sd w = o_has K nu mm u sd w := by
  rcases Bool.eq_false_or_eq_true st with hs | hs
  · rw [(V.2.2.2.2 hs).1]
  · obtain ⟨z1, z2⟩ := Z hs
    have e1 : bkN K nv 0 12 = bkN K nu 0 12 := sumN_cg 12 (fun b _ => by
      rw [z2 b, if_neg (fun z => absurd z.1 (by decide)), if_neg (fun z => absurd z.1 (by decide))])
    have e2 : flat K = [] := by unfold flat; rw [z1]; rfl
    unfold o_has
    rw [V.2.2.2.1 hs, hn hs, e1, e2]
    rfl
theorem o_box_v (Z : EZ st K) (V : VL st nu ts nv tv) {j w : Int} : o_box K nv tv j w = o_box K nu ts j w := by
  rcases Bool.eq_false_or_eq_true st with hs | hs
  · rw [(V.2.2.2.2 hs).1, (V.2.2.2.2 hs).2]
  · have nb : ¬ (0 ≤ j ∧ j < (kX K).length) := fun z => by
      have := z.2
      rw [(Z hs).1, List.length_nil] at this
      omega
    unfold o_box
    rw [if_neg nb, if_neg nb]
theorem o_edit_v (Z : EZ st K) (V : VL st nu ts nv tv) {b k to : Int} : o_edit K nv tv b k to = o_edit K nu ts b k to := by
  rcases Bool.eq_false_or_eq_true st with hs | hs
  · rw [(V.2.2.2.2 hs).1, (V.2.2.2.2 hs).2]
  · unfold o_edit
    rw [if_neg (fun z => noBk (Z hs).2 b z.1), if_neg (fun z => noBk (Z hs).2 b z.1)]
theorem o_later_v (V : VL st nu ts nv tv) {n w : Int} : o_later K nv st n w = o_later K nu st n w := by
  rcases Bool.eq_false_or_eq_true st with hs | hs
  · rw [(V.2.2.2.2 hs).1]
  · have nst : ¬ st = true := fun z => by rw [hs] at z; cases z
    unfold o_later
    rw [if_neg (fun z => nst z.1), if_neg (fun z => nst z.1)]
theorem o_expires_v (Z : EZ st K) (V : VL st nu ts nv tv) {b : Int} : o_expires K nv b = o_expires K nu b := by
  rcases Bool.eq_false_or_eq_true st with hs | hs
  · rw [(V.2.2.2.2 hs).1]
  · unfold o_expires
    rw [if_neg (noBk (Z hs).2 b), if_neg (noBk (Z hs).2 b)]
theorem o_gain_v (V : VL st nu ts nv tv) {w : Int} : o_gain st K nv tv w = o_gain st K nu ts w := by
  rcases Bool.eq_false_or_eq_true st with hs | hs
  · rw [(V.2.2.2.2 hs).1, (V.2.2.2.2 hs).2]
  · have nst : ¬ st = true := fun z => by rw [hs] at z; cases z
    unfold o_gain
    rw [if_neg (fun z => nst z.1), if_neg (fun z => nst z.1)]
theorem o_odds_v (Z : EZ st K) (V : VL st nu ts nv tv) {b : Int} : o_odds K nv st b = o_odds K nu st b := by
  rcases Bool.eq_false_or_eq_true st with hs | hs
  · rw [(V.2.2.2.2 hs).1]
  · have e : (kX K).length = 0 := by rw [(Z hs).1]; rfl
    unfold o_odds
    rw [if_pos (Or.inl e), if_pos (Or.inl e)]
theorem o_windows_v (Z : EZ st K) (V : VL st nu ts nv tv) {T : List Int} {b : Int} : o_windows K nv tv T b = o_windows K nu ts T b := by
  rcases Bool.eq_false_or_eq_true st with hs | hs
  · rw [(V.2.2.2.2 hs).1, (V.2.2.2.2 hs).2]
  · unfold o_windows
    rw [if_neg (noBk (Z hs).2 b), if_neg (noBk (Z hs).2 b)]
theorem o_tells_v (Z : EZ st K) (V : VL st nu ts nv tv) {T : List Int} {b w : Int} : o_tells K nv tv T b w = o_tells K nu ts T b w := by
  rcases Bool.eq_false_or_eq_true st with hs | hs
  · rw [(V.2.2.2.2 hs).1, (V.2.2.2.2 hs).2]
  · unfold o_tells
    rw [if_neg (fun z => noBk (Z hs).2 b z.1), if_neg (fun z => noBk (Z hs).2 b z.1)]
theorem m_fetches_v (Z : EZ st K) (V : VL st nu ts nv tv) {h : AH} (g : Gr h) {bk : Nat} (ok : KOk K) (R : KM h K) (Q : RuM h bk nv tv) (hd : 1 ≤ nu.getD 7 0 ∧ nu.getD 7 0 ≤ 6) (b plan : Int) (hb : rg b) (hp : rg plan) : ∃ h', mX12_fetches [.ref 95, .int (iI b), .int (iI plan)] h = some (some (.int (iI (o_fetches K nu b plan))), h') ∧ FrM [129, 130] [] h h' := by
  rcases Bool.eq_false_or_eq_true st with hs | hs
  · rw [(V.2.2.2.2 hs).1, (V.2.2.2.2 hs).2] at Q
    exact M_fetches g ok R Q hd b plan hb hp
  · have e1 := m_isBk g ok R b hb
    have hc := noBk (Z hs).2 b
    rw [if_neg hc] at e1
    unfold rg at hb hp
    unfold o_fetches
    rw [if_neg (fun z => hc z.1)]
    exact ⟨h, by simp -implicitDefEqProofs (disch := omega) only [bind_ite, ev_itea, ev_seq, ev_seq0, ev_seq1, ev_seq2, ev_seqr, ev_if, ev_ift, ev_iff, ev_ifd, ev_ife, ev_ifet, ev_ifef, ev_ifed, ev_skip, ev_cont, ev_brk, ev_retV, ev_retI, ev_retIv, ev_retL, ev_retLv, ev_retR, ev_retRv, ev_for, ev_for0, ev_for2, ev_for1, ev_forr, ev_sc, ev_scv, ev_ex, ev_exv, ev_lsI, ev_lsIv, ev_lsL, ev_lsLv, ev_lsR, ev_lsRv, ev_ciI, ev_clL, ev_lvI0, ev_lvL0, ev_lvR0, ev_inc0, ev_s1_0, ev_s2_0, ev_lvI1, ev_lvL1, ev_lvR1, ev_inc1, ev_s1_1i, ev_s2_1i, ev_s1_1r, ev_s2_1r, ev_s1_1u, ev_s2_1u, ev_s1_1s, ev_s2_1s, ev_lvI2, ev_lvL2, ev_lvR2, ev_inc2, ev_s1_2i, ev_s2_2i, ev_s1_2r, ev_s2_2r, ev_s1_2u, ev_s2_2u, ev_s1_2s, ev_s2_2s, ev_lvI3, ev_lvL3, ev_lvR3, ev_inc3, ev_s1_3i, ev_s2_3i, ev_s1_3r, ev_s2_3r, ev_s1_3u, ev_s2_3u, ev_s1_3s, ev_s2_3s, ev_lvI4, ev_lvL4, ev_lvR4, ev_inc4, ev_s1_4i, ev_s2_4i, ev_s1_4r, ev_s2_4r, ev_s1_4u, ev_s2_4u, ev_s1_4s, ev_s2_4s, ev_lvI5, ev_lvL5, ev_lvR5, ev_inc5, ev_s1_5i, ev_s2_5i, ev_s1_5r, ev_s2_5r, ev_s1_5u, ev_s2_5u, ev_s1_5s, ev_s2_5s, ev_lvI6, ev_lvL6, ev_lvR6, ev_inc6, ev_s1_6i, ev_s2_6i, ev_s1_6r, ev_s2_6r, ev_s1_6u, ev_s2_6u, ev_s1_6s, ev_s2_6s, ev_lvI7, ev_lvL7, ev_lvR7, ev_inc7, ev_s1_7i, ev_s2_7i, ev_s1_7r, ev_s2_7r, ev_s1_7u, ev_s2_7u, ev_s1_7s, ev_s2_7s, ev_lvI8, ev_lvL8, ev_lvR8, ev_inc8, ev_s1_8i, ev_s2_8i, ev_s1_8r, ev_s2_8r, ev_s1_8u, ev_s2_8u, ev_s1_8s, ev_s2_8s, ev_lvI9, ev_lvL9, ev_lvR9, ev_inc9, ev_s1_9i, ev_s2_9i, ev_s1_9r, ev_s2_9r, ev_s1_9u, ev_s2_9u, ev_s1_9s, ev_s2_9s, ev_lvI10, ev_lvL10, ev_lvR10, ev_inc10, ev_s1_10i, ev_s2_10i, ev_s1_10r, ev_s2_10r, ev_s1_10u, ev_s2_10u, ev_s1_10s, ev_s2_10s, ev_lvI11, ev_lvL11, ev_lvR11, ev_inc11, ev_s1_11i, ev_s2_11i, ev_s1_11r, ev_s2_11r, ev_s1_11u, ev_s2_11u, ev_s1_11s, ev_s2_11s, ev_lvI12, ev_lvL12, ev_lvR12, ev_inc12, ev_s1_12i, ev_s2_12i, ev_s1_12r, ev_s2_12r, ev_s1_12u, ev_s2_12u, ev_s1_12s, ev_s2_12s, ev_lvI13, ev_lvL13, ev_lvR13, ev_inc13, ev_s1_13i, ev_s2_13i, ev_s1_13r, ev_s2_13r, ev_s1_13u, ev_s2_13u, ev_s1_13s, ev_s2_13s, ev_cut1_0, ev_cut1_1, ev_cut2_0, ev_cut2_1, ev_cut2_2, ev_cut3_0, ev_cut3_1, ev_cut3_2, ev_cut3_3, ev_cut4_0, ev_cut4_1, ev_cut4_2, ev_cut4_3, ev_cut4_4, ev_cut5_0, ev_cut5_1, ev_cut5_2, ev_cut5_3, ev_cut5_4, ev_cut5_5, ev_cut6_0, ev_cut6_1, ev_cut6_2, ev_cut6_3, ev_cut6_4, ev_cut6_5, ev_cut6_6, ev_cut7_0, ev_cut7_1, ev_cut7_2, ev_cut7_3, ev_cut7_4, ev_cut7_5, ev_cut7_6, ev_cut7_7, ev_cut8_0, ev_cut8_1, ev_cut8_2, ev_cut8_3, ev_cut8_4, ev_cut8_5, ev_cut8_6, ev_cut8_7, ev_cut8_8, ev_cut9_0, ev_cut9_1, ev_cut9_2, ev_cut9_3, ev_cut9_4, ev_cut9_5, ev_cut9_6, ev_cut9_7, ev_cut9_8, ev_cut9_9, ev_cut10_0, ev_cut10_1, ev_cut10_2, ev_cut10_3, ev_cut10_4, ev_cut10_5, ev_cut10_6, ev_cut10_7, ev_cut10_8, ev_cut10_9, ev_cut10_10, ev_cut11_0, ev_cut11_1, ev_cut11_2, ev_cut11_3, ev_cut11_4, ev_cut11_5, ev_cut11_6, ev_cut11_7, ev_cut11_8, ev_cut11_9, ev_cut11_10, ev_cut11_11, ev_cut12_0, ev_cut12_1, ev_cut12_2, ev_cut12_3, ev_cut12_4, ev_cut12_5, ev_cut12_6, ev_cut12_7, ev_cut12_8, ev_cut12_9, ev_cut12_10, ev_cut12_11, ev_cut12_12, ev_cut13_0, ev_cut13_1, ev_cut13_2, ev_cut13_3, ev_cut13_4, ev_cut13_5, ev_cut13_6, ev_cut13_7, ev_cut13_8, ev_cut13_9, ev_cut13_10, ev_cut13_11, ev_cut13_12, ev_cut13_13, ev_bin, ev_addI, ev_addIv, ev_subI, ev_subIv, ev_mulI, ev_mulIv, ev_andI, ev_andIv, ev_orI, ev_orIv, ev_xorI, ev_xorIv, ev_shlI, ev_shlIv, ev_shrI, ev_shrIv, ev_ushrI, ev_ushrIv, ev_addL, ev_addLv, ev_subL, ev_subLv, ev_mulL, ev_mulLv, ev_andL, ev_andLv, ev_orL, ev_orLv, ev_shlL, ev_shlLv, ev_divI, ev_divIv, ev_remI, ev_remIv, ev_divL, ev_divLv, ev_remL, ev_remLv, ev_eqI, ev_eqIv, ev_eqL, ev_eqLv, ev_eq0, ev_eq0v, ev_neI, ev_neIv, ev_neL, ev_neLv, ev_ne0, ev_ne0v, ev_ltI, ev_ltIv, ev_ltL, ev_ltLv, ev_lt0, ev_lt0v, ev_geI, ev_geIv, ev_geL, ev_geLv, ev_ge0, ev_ge0v, ev_gtI, ev_gtIv, ev_gtL, ev_gtLv, ev_gt0, ev_gt0v, ev_leI, ev_leIv, ev_leL, ev_leLv, ev_le0, ev_le0v, ev_i2L, ev_i2Lv, ev_l2I, ev_l2Iv, ev_nul, ev_nuls, ev_nuln, ev_andX, ev_andXt, ev_andXf, ev_andXd, ev_orX, ev_orXt, ev_orXf, ev_orXd, ev_notX, ev_notXv, ev_notd, ev_iteX, ev_iteXt, ev_iteXf, ev_iteXd, ev_getI, ev_getIv, ev_getL, ev_getLv, ev_getR, ev_getRv, ev_rsz, ev_rszv, ev_aldI, ev_aldIq, ev_aldIv, ev_aldL, ev_aldLq, ev_aldLv, ev_aldR, ev_aldRq, ev_aldRv, ev_aln, ev_putI, ev_putIq, ev_putIv, ev_putZ, ev_putZq, ev_putZv, ev_putL, ev_putLq, ev_putLv, ev_putR, ev_putRq, ev_putRv, ev_astI, ev_astIq, ev_astIi, ev_astIv, ev_astZ, ev_astZq, ev_astZi, ev_astZv, ev_astL, ev_astLq, ev_astLi, ev_astLv, ev_astR, ev_upd, ev_updq, ev_updv, ev_ina, ev_inaq, ev_inav, ev_rzs, ev_rzsq, ev_rzsv, ev_sw, ev_swx, ev_swr, ev_agN, ev_agC, ev_agi, ev_agl, ev_agr, ev_ag2, ev_calX, ev_calv, ev_decI, ev_decL, ev_decR, ev_calS, ev_clsv, ev_clsd, ev_ck0, ev_ck1, ev_cs1, ev_ck2, ev_cs2, ev_ck3, ev_cs3, ev_ck4, ev_cs4, ev_ck5, ev_cs5, ev_finV, ev_finI, ev_finL, ev_finR, ev_fin1, ev_fin0, ev_finZ, ev_newO, ev_newv, ev_newR, ev_newA, ev_newAv, ev_oi, ev_oiv, Option.bind_some, Option.bind_none, Option.bind_fun_some, reduceCtorEq, reduceIte, List.take_zero, Sum.inl.injEq, Sum.inr.injEq, Option.some.injEq, Prod.mk.injEq, Nat.reduceEqDiff, Nat.reduceAdd, Nat.reduceSub, Nat.reduceMul, Nat.reduceLT, Nat.reduceLeDiff, decide_true, decide_false, decide_eq_true_eq, decide_eq_false_iff_not, Bool.and_true, Bool.true_and, Bool.and_false, Bool.false_and, Bool.false_or, Bool.or_false, Bool.true_or, Bool.or_true, Bool.and_self, Bool.or_self, true_or, or_true, and_true, true_and, false_and, and_false, false_or, or_false, not_true_eq_false, not_false_eq_true, Bool.not_true, Bool.not_false, Bool.false_eq_true, and_self, ite_true, ite_false, eq_self, hT_sR, hP_sR, hI_sR, hL_sR, hN_sR, hR_sRu, hT_sI, hP_sI, hR_sI, hL_sI, hN_sI, hI_sI, hT_sL, hP_sL, hR_sL, hI_sL, hN_sL, hL_sL, hT_sP, hR_sP, hI_sP, hL_sP, hN_sP, hP_sP, u1_app, u2_app, hT_sA, hP_sA, hR_sA, hL_sA, hN_sA, hI_sA, sI_sA, sI_sI, sA_sA, sA_sI, hT_sLA, hP_sLA, hR_sLA, hI_sLA, hN_sLA, hL_sLA, sL_sLA, eX12_fetches, bX12_fetches, gT95 g, gT96 g, gT97 g, gT98 g, gT99 g, gT100 g, gT101 g, gT102 g, gT103 g, gT104 g, gT105 g, gT106 g, gT107 g, gT108 g, gT109 g, gT110 g, gT111 g, gT112 g, gT113 g, gT114 g, gT115 g, gT116 g, gT117 g, gT118 g, gT119 g, gT120 g, gT121 g, gT122 g, gT123 g, gT124 g, gT125 g, gT126 g, gT127 g, gT128 g, gT129 g, gT130 g, gT131 g, gT132 g, gT133 g, gT134 g, gT135 g, gT136 g, gP95_0 g, gP95_14 g, gP95_15 g, gP95_16 g, gP95_17 g, gP95_18 g, gP95_22 g, gP95_23 g, gP95_24 g, gP95_25 g, gP95_26 g, gP95_29 g, gP95_33 g, gP95_34 g, gP95_35 g, gP95_36 g, gP95_38 g, gP95_41 g, gP95_42 g, gP95_43 g, gP95_44 g, gP95_45 g, gP95_46 g, gP95_47 g, gP95_48 g, gP95_49 g, gP95_50 g, gP95_52 g, gP95_54 g, gP95_55 g, gP95_56 g, gP95_57 g, gP95_58 g, gP95_60 g, gP95_61 g, gP95_62 g, gP95_63 g, gP95_64 g, gP95_66 g, gP95_67 g, gP95_68 g, iI_lt2, iI_le2, iI_eq2, iI_lt0, iI_0lt, iI_le0, iI_0le, iI_eq0, iI_eq1, iI_nat2, iI_add, iI_sub, iI_mul, Int.toNat_natCast, if_pos, if_neg, e1], FrM.rf _ _ _⟩
end
theorem Kx_last (Ks : Nat → KT) (K : KT) (u : Nat) : Kx Ks K u u = K := by unfold Kx; rw [if_neg (by omega)]
/-- cores in their order: each has what those before it had -/
theorem ChK.ex {Ks : Nat → KT} {K : KT} {u : Nat} (H : ChK Ks K u) (i : Nat) : ∀ k, i + k ≤ u → ExK (Kx Ks K u i) (Kx Ks K u (i + k)) ∧ (kK (Kx Ks K u (i + k))).length ≤ (kK (Kx Ks K u i)).length + k
  | 0, _ => ⟨ExK.rf _, Nat.le_refl _⟩
  | k + 1, h => by
    obtain ⟨e1, e2⟩ := ChK.ex H i k (by omega)
    obtain ⟨d1, d2⟩ := H (i + k) (by omega)
    exact ⟨e1.tr d1, by show (kK (Kx Ks K u (i + k + 1))).length ≤ _; omega⟩
theorem ChK.now {Ks : Nat → KT} {K : KT} {u : Nat} (H : ChK Ks K u) {i : Nat} (hi : i < u) : ExK (Ks i) K ∧ (kK K).length ≤ (kK (Ks i)).length + (u - i) := by
  have := H.ex i (u - i) (by omega)
  have e : i + (u - i) = u := by omega
  rw [e, Kx_last] at this
  have e2 : Kx Ks K u i = Ks i := by unfold Kx; rw [if_pos hi]
  rw [e2] at this
  exact this
theorem ExK.kl {a b : KT} (E : ExK a b) : (kK a).length ≤ (kK b).length := (pre_take E.2.2.2.2.1).2
theorem sv0_le {Ks : Nat → KT} {K : KT} {u : Nat} (H : ChK Ks K u) : sv0 Ks K u ≤ (kK K).length := by
  unfold sv0
  by_cases z : u = 0
  · rw [if_pos z]; exact Nat.le_refl _
  · rw [if_neg z]; exact (H.now (by omega)).1.kl
theorem S_fault {n : Nat} {h : AH} (I : Inv n h) (hn : n < 512) (a1 : Int32) : StpI n h mX11_fault mX12_fault [.int a1] := by
  obtain ⟨r, r', nu, ts, idm, K, cf, PF, Ks, u, m, pn, bk, nv, tv, a, M, T, G, MT, st, x, fk, fp, C, L, D, E, P, V⟩ := I
  obtain ⟨b1, rfl, hb1⟩ := iI_self a1
  have X := C.1
  have ok := X.2.2.2.2.2.1
  have na := P.1.at
  have t0 := P.2.1 0 (by decide)
  have t2 := P.2.1 2 (by decide)
  have G6 := P.2.2.2.2.2.2.2.2.2.1
  have mo := P.2.2.2.2.2.2.1
  have mo1 := mo.1
  have mo2 := mo.2.1
  have nb := P.2.2.2.2.2.2.2.2.2.2.2.2.2.2.2.2.2
  have room := D.2.2.1.room
  have hi14 : hI h 11 14 = iI (u : Int) := C.2.2.2.2.2.2.1.2.2.2.2.2.1
  have hsb : ∀ b, bF K b = true → st = true := fun b hb => by
    cases st with
    | true => rfl
    | false => rw [(P.2.2.2.2.2.1 rfl).2.1 b] at hb; cases hb
  have Z : EZ st K := fun z => ⟨(P.2.2.2.2.2.1 z).1, (P.2.2.2.2.2.1 z).2.1⟩
  have q1 := C_fault X.1 fk fp b1 hb1 L.2.2.2.2.1 L.2.2.2.2.2.1
  have f1 : FrC [] [] h h := FrC.rf _ _ h
  have R1 : RuC h r nu ts := X.2.2.2.1
  obtain ⟨C1, L1, D1, E1⟩ := qry C L D E f1 (by unfold scQ; simp) (by simp) R1
  have g1 := C1.1.1
  have t1 := M_fault g1 fk fp b1 hb1 E1.2.2.2.2.1 E1.2.2.2.2.2.1
  have f2 : FrM [] [] h h := FrM.rf _ _ h
  have l2 : LogS h h := LogS.rf h
  obtain ⟨C2, L2, D2, E2⟩ := qry2 C1 L1 D1 E1 f2 (by decide) (by decide) l2
  exact ⟨_, h, h, q1, t1, C1.1.1, r, r', nu, ts, idm, K, cf, PF, Ks, u, m, pn, bk, nv, tv, a, M, T, G, MT, st, x, fk, fp, C2, L2, D2, E2, P.up, V⟩
theorem S_status {n : Nat} {h : AH} (I : Inv n h) (hn : n < 512) (a1 : Int32) : StpI n h mX11_status mX12_status [.int a1] := by
  obtain ⟨r, r', nu, ts, idm, K, cf, PF, Ks, u, m, pn, bk, nv, tv, a, M, T, G, MT, st, x, fk, fp, C, L, D, E, P, V⟩ := I
  obtain ⟨b1, rfl, hb1⟩ := iI_self a1
  have X := C.1
  have ok := X.2.2.2.2.2.1
  have na := P.1.at
  have t0 := P.2.1 0 (by decide)
  have t2 := P.2.1 2 (by decide)
  have G6 := P.2.2.2.2.2.2.2.2.2.1
  have mo := P.2.2.2.2.2.2.1
  have mo1 := mo.1
  have mo2 := mo.2.1
  have nb := P.2.2.2.2.2.2.2.2.2.2.2.2.2.2.2.2.2
  have room := D.2.2.1.room
  have hi14 : hI h 11 14 = iI (u : Int) := C.2.2.2.2.2.2.1.2.2.2.2.2.1
  have hsb : ∀ b, bF K b = true → st = true := fun b hb => by
    cases st with
    | true => rfl
    | false => rw [(P.2.2.2.2.2.1 rfl).2.1 b] at hb; cases hb
  have Z : EZ st K := fun z => ⟨(P.2.2.2.2.2.1 z).1, (P.2.2.2.2.2.1 z).2.1⟩
  have q1 := C_status X.1 G b1 hb1 L.2.1 G6
  have f1 : FrC [] [] h h := FrC.rf _ _ h
  have R1 : RuC h r nu ts := X.2.2.2.1
  obtain ⟨C1, L1, D1, E1⟩ := qry C L D E f1 (by unfold scQ; simp) (by simp) R1
  have g1 := C1.1.1
  have t1 := M_status g1 G b1 hb1 E1.2.1 G6
  have f2 : FrM [] [] h h := FrM.rf _ _ h
  have l2 : LogS h h := LogS.rf h
  obtain ⟨C2, L2, D2, E2⟩ := qry2 C1 L1 D1 E1 f2 (by decide) (by decide) l2
  exact ⟨_, h, h, q1, t1, C1.1.1, r, r', nu, ts, idm, K, cf, PF, Ks, u, m, pn, bk, nv, tv, a, M, T, G, MT, st, x, fk, fp, C2, L2, D2, E2, P.up, V⟩
theorem S_has {n : Nat} {h : AH} (I : Inv n h) (hn : n < 512) (a1 : Int32) : StpI n h mX11_has mX12_has [.int a1] := by
  obtain ⟨r, r', nu, ts, idm, K, cf, PF, Ks, u, m, pn, bk, nv, tv, a, M, T, G, MT, st, x, fk, fp, C, L, D, E, P, V⟩ := I
  obtain ⟨b1, rfl, hb1⟩ := iI_self a1
  have X := C.1
  have ok := X.2.2.2.2.2.1
  have na := P.1.at
  have t0 := P.2.1 0 (by decide)
  have t2 := P.2.1 2 (by decide)
  have G6 := P.2.2.2.2.2.2.2.2.2.1
  have mo := P.2.2.2.2.2.2.1
  have mo1 := mo.1
  have mo2 := mo.2.1
  have nb := P.2.2.2.2.2.2.2.2.2.2.2.2.2.2.2.2.2
  have room := D.2.2.1.room
  have hi14 : hI h 11 14 = iI (u : Int) := C.2.2.2.2.2.2.1.2.2.2.2.2.1
  have hsb : ∀ b, bF K b = true → st = true := fun b hb => by
    cases st with
    | true => rfl
    | false => rw [(P.2.2.2.2.2.1 rfl).2.1 b] at hb; cases hb
  have Z : EZ st K := fun z => ⟨(P.2.2.2.2.2.1 z).1, (P.2.2.2.2.2.1 z).2.1⟩
  obtain ⟨h1, q1, f1⟩ := C_has X b1 hb1 (by omega) MT (MT.length / 2) L.2.2.1 (by omega) (by omega) (u : Int) x hi14 L.2.2.2.2.2.2
  have f1 := FrR.c (O := []) f1
  have R1 := RuC.q C f1 (by decide)
  obtain ⟨C1, L1, D1, E1⟩ := qry C L D E f1 (by unfold scQ; simp) (by simp) R1
  have g1 := C1.1.1
  obtain ⟨h2, t1, f2⟩ := M_has g1 ok D1.2.1 D1.1 b1 hb1 st E1.2.2.2.1 V.2.2.2.1 _ _ _ E1.2.2.1.1 D1.2.2.1.2.1 E1.2.2.2.2.2.2
  have l2 : LogS h1 h2 := LogS.fr f2 (by decide) (by decide)
  rw [o_has_v Z V P.1.2.2.2] at t1
  obtain ⟨C2, L2, D2, E2⟩ := qry2 C1 L1 D1 E1 f2 (by decide) (by decide) l2
  exact ⟨_, h1, h2, q1, t1, C1.1.1, r, r', nu, ts, idm, K, cf, PF, Ks, u, m, pn, bk, nv, tv, a, M, T, G, MT, st, x, fk, fp, C2, L2, D2, E2, P.up, V⟩
theorem S_backup {n : Nat} {h : AH} (I : Inv n h) (hn : n < 512) (a1 a2 : Int32) : StpI n h mX11_backup mX12_backup [.int a1, .int a2] := by
  obtain ⟨r, r', nu, ts, idm, K, cf, PF, Ks, u, m, pn, bk, nv, tv, a, M, T, G, MT, st, x, fk, fp, C, L, D, E, P, V⟩ := I
  obtain ⟨b1, rfl, hb1⟩ := iI_self a1
  obtain ⟨b2, rfl, hb2⟩ := iI_self a2
  have X := C.1
  have ok := X.2.2.2.2.2.1
  have na := P.1.at
  have t0 := P.2.1 0 (by decide)
  have t2 := P.2.1 2 (by decide)
  have G6 := P.2.2.2.2.2.2.2.2.2.1
  have mo := P.2.2.2.2.2.2.1
  have mo1 := mo.1
  have mo2 := mo.2.1
  have nb := P.2.2.2.2.2.2.2.2.2.2.2.2.2.2.2.2.2
  have room := D.2.2.1.room
  have hi14 : hI h 11 14 = iI (u : Int) := C.2.2.2.2.2.2.1.2.2.2.2.2.1
  have hsb : ∀ b, bF K b = true → st = true := fun b hb => by
    cases st with
    | true => rfl
    | false => rw [(P.2.2.2.2.2.1 rfl).2.1 b] at hb; cases hb
  have Z : EZ st K := fun z => ⟨(P.2.2.2.2.2.1 z).1, (P.2.2.2.2.2.1 z).2.1⟩
  have q1 := C_backup X.1 ok X.2.2.2.2.2.2.1 X.2.2.2.2.2.2.2.1 X.2.2.2.2.2.2.2.2 b1 b2 hb1 hb2
  have f1 : FrC [] [] h h := FrC.rf _ _ h
  have R1 : RuC h r nu ts := X.2.2.2.1
  obtain ⟨C1, L1, D1, E1⟩ := qry C L D E f1 (by unfold scQ; simp) (by simp) R1
  have g1 := C1.1.1
  have t1 := M_backup g1 ok D1.2.1 b1 b2 hb1 hb2
  have f2 : FrM [] [] h h := FrM.rf _ _ h
  have l2 : LogS h h := LogS.rf h
  obtain ⟨C2, L2, D2, E2⟩ := qry2 C1 L1 D1 E1 f2 (by decide) (by decide) l2
  exact ⟨_, h, h, q1, t1, C1.1.1, r, r', nu, ts, idm, K, cf, PF, Ks, u, m, pn, bk, nv, tv, a, M, T, G, MT, st, x, fk, fp, C2, L2, D2, E2, P.up, V⟩
theorem S_piece {n : Nat} {h : AH} (I : Inv n h) (hn : n < 512) (a1 a2 a3 : Int32) : StpI n h mX11_piece mX12_piece [.int a1, .int a2, .int a3] := by
  obtain ⟨r, r', nu, ts, idm, K, cf, PF, Ks, u, m, pn, bk, nv, tv, a, M, T, G, MT, st, x, fk, fp, C, L, D, E, P, V⟩ := I
  obtain ⟨b1, rfl, hb1⟩ := iI_self a1
  obtain ⟨b2, rfl, hb2⟩ := iI_self a2
  obtain ⟨b3, rfl, hb3⟩ := iI_self a3
  have X := C.1
  have ok := X.2.2.2.2.2.1
  have na := P.1.at
  have t0 := P.2.1 0 (by decide)
  have t2 := P.2.1 2 (by decide)
  have G6 := P.2.2.2.2.2.2.2.2.2.1
  have mo := P.2.2.2.2.2.2.1
  have mo1 := mo.1
  have mo2 := mo.2.1
  have nb := P.2.2.2.2.2.2.2.2.2.2.2.2.2.2.2.2.2
  have room := D.2.2.1.room
  have hi14 : hI h 11 14 = iI (u : Int) := C.2.2.2.2.2.2.1.2.2.2.2.2.1
  have hsb : ∀ b, bF K b = true → st = true := fun b hb => by
    cases st with
    | true => rfl
    | false => rw [(P.2.2.2.2.2.1 rfl).2.1 b] at hb; cases hb
  have Z : EZ st K := fun z => ⟨(P.2.2.2.2.2.1 z).1, (P.2.2.2.2.2.1 z).2.1⟩
  have q1 := C_piece X b1 b2 b3 hb1 hb2 hb3
  have f1 : FrC [] [] h h := FrC.rf _ _ h
  have R1 : RuC h r nu ts := X.2.2.2.1
  obtain ⟨C1, L1, D1, E1⟩ := qry C L D E f1 (by unfold scQ; simp) (by simp) R1
  have g1 := C1.1.1
  have t1 := M_piece g1 ok D1.2.1 b1 b2 b3 hb1 hb2 hb3
  have f2 : FrM [] [] h h := FrM.rf _ _ h
  have l2 : LogS h h := LogS.rf h
  obtain ⟨C2, L2, D2, E2⟩ := qry2 C1 L1 D1 E1 f2 (by decide) (by decide) l2
  exact ⟨_, h, h, q1, t1, C1.1.1, r, r', nu, ts, idm, K, cf, PF, Ks, u, m, pn, bk, nv, tv, a, M, T, G, MT, st, x, fk, fp, C2, L2, D2, E2, P.up, V⟩
theorem S_box {n : Nat} {h : AH} (I : Inv n h) (hn : n < 512) (a1 a2 : Int32) : StpI n h mX11_box mX12_box [.int a1, .int a2] := by
  obtain ⟨r, r', nu, ts, idm, K, cf, PF, Ks, u, m, pn, bk, nv, tv, a, M, T, G, MT, st, x, fk, fp, C, L, D, E, P, V⟩ := I
  obtain ⟨b1, rfl, hb1⟩ := iI_self a1
  obtain ⟨b2, rfl, hb2⟩ := iI_self a2
  have X := C.1
  have ok := X.2.2.2.2.2.1
  have na := P.1.at
  have t0 := P.2.1 0 (by decide)
  have t2 := P.2.1 2 (by decide)
  have G6 := P.2.2.2.2.2.2.2.2.2.1
  have mo := P.2.2.2.2.2.2.1
  have mo1 := mo.1
  have mo2 := mo.2.1
  have nb := P.2.2.2.2.2.2.2.2.2.2.2.2.2.2.2.2.2
  have room := D.2.2.1.room
  have hi14 : hI h 11 14 = iI (u : Int) := C.2.2.2.2.2.2.1.2.2.2.2.2.1
  have hsb : ∀ b, bF K b = true → st = true := fun b hb => by
    cases st with
    | true => rfl
    | false => rw [(P.2.2.2.2.2.1 rfl).2.1 b] at hb; cases hb
  have Z : EZ st K := fun z => ⟨(P.2.2.2.2.2.1 z).1, (P.2.2.2.2.2.1 z).2.1⟩
  obtain ⟨h1, q1, f1, R1⟩ := C_box X t2 b1 b2 hb1 hb2
  have f1 := FrR.c (O := []) f1
  obtain ⟨C1, L1, D1, E1⟩ := qry C L D E f1 (by unfold scQ; simp) (by simp) R1
  have g1 := C1.1.1
  obtain ⟨h2, t1, f2⟩ := M_box g1 ok D1.2.1 D1.1 (V.2.1 2 (by decide)) b1 b2 hb1 hb2
  have l2 : LogS h1 h2 := LogS.fr f2 (by decide) (by decide)
  rw [o_box_v Z V] at t1
  obtain ⟨C2, L2, D2, E2⟩ := qry2 C1 L1 D1 E1 f2 (by decide) (by decide) l2
  exact ⟨_, h1, h2, q1, t1, C1.1.1, r, r', nu, ts, idm, K, cf, PF, Ks, u, m, pn, bk, nv, tv, a, M, T, G, MT, st, x, fk, fp, C2, L2, D2, E2, P.up, V⟩
theorem S_octet {n : Nat} {h : AH} (I : Inv n h) (hn : n < 512) (a1 a2 : Int32) : StpI n h mX11_octet mX12_octet [.int a1, .int a2] := by
  obtain ⟨r, r', nu, ts, idm, K, cf, PF, Ks, u, m, pn, bk, nv, tv, a, M, T, G, MT, st, x, fk, fp, C, L, D, E, P, V⟩ := I
  obtain ⟨b1, rfl, hb1⟩ := iI_self a1
  obtain ⟨b2, rfl, hb2⟩ := iI_self a2
  have X := C.1
  have ok := X.2.2.2.2.2.1
  have na := P.1.at
  have t0 := P.2.1 0 (by decide)
  have t2 := P.2.1 2 (by decide)
  have G6 := P.2.2.2.2.2.2.2.2.2.1
  have mo := P.2.2.2.2.2.2.1
  have mo1 := mo.1
  have mo2 := mo.2.1
  have nb := P.2.2.2.2.2.2.2.2.2.2.2.2.2.2.2.2.2
  have room := D.2.2.1.room
  have hi14 : hI h 11 14 = iI (u : Int) := C.2.2.2.2.2.2.1.2.2.2.2.2.1
  have hsb : ∀ b, bF K b = true → st = true := fun b hb => by
    cases st with
    | true => rfl
    | false => rw [(P.2.2.2.2.2.1 rfl).2.1 b] at hb; cases hb
  have Z : EZ st K := fun z => ⟨(P.2.2.2.2.2.1 z).1, (P.2.2.2.2.2.1 z).2.1⟩
  obtain ⟨h1, q1, f1⟩ := C_octet X b1 b2 hb1 hb2
  have f1 := FrR.c (O := []) f1
  have R1 := RuC.q C f1 (by decide)
  obtain ⟨C1, L1, D1, E1⟩ := qry C L D E f1 (by unfold scQ; simp) (by simp) R1
  have g1 := C1.1.1
  obtain ⟨h2, t1, f2⟩ := M_octet g1 ok D1.2.1 b1 b2 hb1 hb2
  have l2 : LogS h1 h2 := LogS.fr f2 (by decide) (by decide)
  obtain ⟨C2, L2, D2, E2⟩ := qry2 C1 L1 D1 E1 f2 (by decide) (by decide) l2
  exact ⟨_, h1, h2, q1, t1, C1.1.1, r, r', nu, ts, idm, K, cf, PF, Ks, u, m, pn, bk, nv, tv, a, M, T, G, MT, st, x, fk, fp, C2, L2, D2, E2, P.up, V⟩
theorem S_shared {n : Nat} {h : AH} (I : Inv n h) (hn : n < 512) (a1 a2 : Int32) : StpI n h mX11_shared mX12_shared [.int a1, .int a2] := by
  obtain ⟨r, r', nu, ts, idm, K, cf, PF, Ks, u, m, pn, bk, nv, tv, a, M, T, G, MT, st, x, fk, fp, C, L, D, E, P, V⟩ := I
  obtain ⟨b1, rfl, hb1⟩ := iI_self a1
  obtain ⟨b2, rfl, hb2⟩ := iI_self a2
  have X := C.1
  have ok := X.2.2.2.2.2.1
  have na := P.1.at
  have t0 := P.2.1 0 (by decide)
  have t2 := P.2.1 2 (by decide)
  have G6 := P.2.2.2.2.2.2.2.2.2.1
  have mo := P.2.2.2.2.2.2.1
  have mo1 := mo.1
  have mo2 := mo.2.1
  have nb := P.2.2.2.2.2.2.2.2.2.2.2.2.2.2.2.2.2
  have room := D.2.2.1.room
  have hi14 : hI h 11 14 = iI (u : Int) := C.2.2.2.2.2.2.1.2.2.2.2.2.1
  have hsb : ∀ b, bF K b = true → st = true := fun b hb => by
    cases st with
    | true => rfl
    | false => rw [(P.2.2.2.2.2.1 rfl).2.1 b] at hb; cases hb
  have Z : EZ st K := fun z => ⟨(P.2.2.2.2.2.1 z).1, (P.2.2.2.2.2.1 z).2.1⟩
  obtain ⟨h1, q1, f1⟩ := C_shared X b1 b2 hb1 hb2
  have f1 := FrR.c (O := []) f1
  have R1 := RuC.q C f1 (by decide)
  obtain ⟨C1, L1, D1, E1⟩ := qry C L D E f1 (by unfold scQ; simp) (by simp) R1
  have g1 := C1.1.1
  have t1 := M_shared g1 ok D1.2.1 b1 b2 hb1 hb2
  have f2 : FrM [] [] h1 h1 := FrM.rf _ _ h1
  have l2 : LogS h1 h1 := LogS.rf h1
  obtain ⟨C2, L2, D2, E2⟩ := qry2 C1 L1 D1 E1 f2 (by decide) (by decide) l2
  exact ⟨_, h1, h1, q1, t1, C1.1.1, r, r', nu, ts, idm, K, cf, PF, Ks, u, m, pn, bk, nv, tv, a, M, T, G, MT, st, x, fk, fp, C2, L2, D2, E2, P.up, V⟩
theorem S_edit {n : Nat} {h : AH} (I : Inv n h) (hn : n < 512) (a1 a2 a3 : Int32) : StpI n h mX11_edit mX12_edit [.int a1, .int a2, .int a3] := by
  obtain ⟨r, r', nu, ts, idm, K, cf, PF, Ks, u, m, pn, bk, nv, tv, a, M, T, G, MT, st, x, fk, fp, C, L, D, E, P, V⟩ := I
  obtain ⟨b1, rfl, hb1⟩ := iI_self a1
  obtain ⟨b2, rfl, hb2⟩ := iI_self a2
  obtain ⟨b3, rfl, hb3⟩ := iI_self a3
  have X := C.1
  have ok := X.2.2.2.2.2.1
  have na := P.1.at
  have t0 := P.2.1 0 (by decide)
  have t2 := P.2.1 2 (by decide)
  have G6 := P.2.2.2.2.2.2.2.2.2.1
  have mo := P.2.2.2.2.2.2.1
  have mo1 := mo.1
  have mo2 := mo.2.1
  have nb := P.2.2.2.2.2.2.2.2.2.2.2.2.2.2.2.2.2
  have room := D.2.2.1.room
  have hi14 : hI h 11 14 = iI (u : Int) := C.2.2.2.2.2.2.1.2.2.2.2.2.1
  have hsb : ∀ b, bF K b = true → st = true := fun b hb => by
    cases st with
    | true => rfl
    | false => rw [(P.2.2.2.2.2.1 rfl).2.1 b] at hb; cases hb
  have Z : EZ st K := fun z => ⟨(P.2.2.2.2.2.1 z).1, (P.2.2.2.2.2.1 z).2.1⟩
  obtain ⟨h1, q1, f1, R1⟩ := C_edit X C.2.2.2.2.1 C.2.2.2.2.2.1 t0 na.1.2 b1 b2 b3 hb1 hb2 hb3
  have f1 := FrR.c (O := []) f1
  obtain ⟨C1, L1, D1, E1⟩ := qry C L D E f1 (by unfold scQ; simp) (by simp) R1
  have g1 := C1.1.1
  obtain ⟨h2, t1, f2⟩ := M_edit g1 ok D1.2.1 D1.1 V.1 (V.2.1 0 (by decide)) V.2.2.1 b1 b2 b3 hb1 hb2 hb3
  have l2 : LogS h1 h2 := LogS.fr f2 (by decide) (by decide)
  rw [o_edit_v Z V] at t1
  obtain ⟨C2, L2, D2, E2⟩ := qry2 C1 L1 D1 E1 f2 (by decide) (by decide) l2
  exact ⟨_, h1, h2, q1, t1, C1.1.1, r, r', nu, ts, idm, K, cf, PF, Ks, u, m, pn, bk, nv, tv, a, M, T, G, MT, st, x, fk, fp, C2, L2, D2, E2, P.up, V⟩
theorem S_why {n : Nat} {h : AH} (I : Inv n h) (hn : n < 512) (a1 a2 : Int32) : StpI n h mX11_why mX12_why [.int a1, .int a2] := by
  obtain ⟨r, r', nu, ts, idm, K, cf, PF, Ks, u, m, pn, bk, nv, tv, a, M, T, G, MT, st, x, fk, fp, C, L, D, E, P, V⟩ := I
  obtain ⟨b1, rfl, hb1⟩ := iI_self a1
  obtain ⟨b2, rfl, hb2⟩ := iI_self a2
  have X := C.1
  have ok := X.2.2.2.2.2.1
  have na := P.1.at
  have t0 := P.2.1 0 (by decide)
  have t2 := P.2.1 2 (by decide)
  have G6 := P.2.2.2.2.2.2.2.2.2.1
  have mo := P.2.2.2.2.2.2.1
  have mo1 := mo.1
  have mo2 := mo.2.1
  have nb := P.2.2.2.2.2.2.2.2.2.2.2.2.2.2.2.2.2
  have room := D.2.2.1.room
  have hi14 : hI h 11 14 = iI (u : Int) := C.2.2.2.2.2.2.1.2.2.2.2.2.1
  have hsb : ∀ b, bF K b = true → st = true := fun b hb => by
    cases st with
    | true => rfl
    | false => rw [(P.2.2.2.2.2.1 rfl).2.1 b] at hb; cases hb
  have Z : EZ st K := fun z => ⟨(P.2.2.2.2.2.1 z).1, (P.2.2.2.2.2.1 z).2.1⟩
  have q1 := C_why X b1 b2 hb1 hb2
  have f1 : FrC [] [] h h := FrC.rf _ _ h
  have R1 : RuC h r nu ts := X.2.2.2.1
  obtain ⟨C1, L1, D1, E1⟩ := qry C L D E f1 (by unfold scQ; simp) (by simp) R1
  have g1 := C1.1.1
  have t1 := M_why g1 ok D1.2.1 b1 b2 hb1 hb2
  have f2 : FrM [] [] h h := FrM.rf _ _ h
  have l2 : LogS h h := LogS.rf h
  obtain ⟨C2, L2, D2, E2⟩ := qry2 C1 L1 D1 E1 f2 (by decide) (by decide) l2
  exact ⟨_, h, h, q1, t1, C1.1.1, r, r', nu, ts, idm, K, cf, PF, Ks, u, m, pn, bk, nv, tv, a, M, T, G, MT, st, x, fk, fp, C2, L2, D2, E2, P.up, V⟩
theorem S_fetches {n : Nat} {h : AH} (I : Inv n h) (hn : n < 512) (a1 a2 : Int32) : StpI n h mX11_fetches mX12_fetches [.int a1, .int a2] := by
  obtain ⟨r, r', nu, ts, idm, K, cf, PF, Ks, u, m, pn, bk, nv, tv, a, M, T, G, MT, st, x, fk, fp, C, L, D, E, P, V⟩ := I
  obtain ⟨b1, rfl, hb1⟩ := iI_self a1
  obtain ⟨b2, rfl, hb2⟩ := iI_self a2
  have X := C.1
  have ok := X.2.2.2.2.2.1
  have na := P.1.at
  have t0 := P.2.1 0 (by decide)
  have t2 := P.2.1 2 (by decide)
  have G6 := P.2.2.2.2.2.2.2.2.2.1
  have mo := P.2.2.2.2.2.2.1
  have mo1 := mo.1
  have mo2 := mo.2.1
  have nb := P.2.2.2.2.2.2.2.2.2.2.2.2.2.2.2.2.2
  have room := D.2.2.1.room
  have hi14 : hI h 11 14 = iI (u : Int) := C.2.2.2.2.2.2.1.2.2.2.2.2.1
  have hsb : ∀ b, bF K b = true → st = true := fun b hb => by
    cases st with
    | true => rfl
    | false => rw [(P.2.2.2.2.2.1 rfl).2.1 b] at hb; cases hb
  have Z : EZ st K := fun z => ⟨(P.2.2.2.2.2.1 z).1, (P.2.2.2.2.2.1 z).2.1⟩
  obtain ⟨h1, q1, f1⟩ := C_fetches X na.2.2.2.2.2.2.1.1 b1 b2 hb1 hb2
  have f1 := FrR.c (O := []) f1
  have R1 := RuC.q C f1 (by decide)
  obtain ⟨C1, L1, D1, E1⟩ := qry C L D E f1 (by unfold scQ; simp) (by simp) R1
  have g1 := C1.1.1
  obtain ⟨h2, t1, f2⟩ := m_fetches_v Z V g1 ok D1.2.1 D1.1 na.2.2.2.2.2.2.1 b1 b2 hb1 hb2
  have l2 : LogS h1 h2 := LogS.fr f2 (by decide) (by decide)
  obtain ⟨C2, L2, D2, E2⟩ := qry2 C1 L1 D1 E1 f2 (by decide) (by decide) l2
  exact ⟨_, h1, h2, q1, t1, C1.1.1, r, r', nu, ts, idm, K, cf, PF, Ks, u, m, pn, bk, nv, tv, a, M, T, G, MT, st, x, fk, fp, C2, L2, D2, E2, P.up, V⟩
theorem S_later {n : Nat} {h : AH} (I : Inv n h) (hn : n < 512) (a1 a2 : Int32) : StpI n h mX11_later mX12_later [.int a1, .int a2] := by
  obtain ⟨r, r', nu, ts, idm, K, cf, PF, Ks, u, m, pn, bk, nv, tv, a, M, T, G, MT, st, x, fk, fp, C, L, D, E, P, V⟩ := I
  obtain ⟨b1, rfl, hb1⟩ := iI_self a1
  obtain ⟨b2, rfl, hb2⟩ := iI_self a2
  have X := C.1
  have ok := X.2.2.2.2.2.1
  have na := P.1.at
  have t0 := P.2.1 0 (by decide)
  have t2 := P.2.1 2 (by decide)
  have G6 := P.2.2.2.2.2.2.2.2.2.1
  have mo := P.2.2.2.2.2.2.1
  have mo1 := mo.1
  have mo2 := mo.2.1
  have nb := P.2.2.2.2.2.2.2.2.2.2.2.2.2.2.2.2.2
  have room := D.2.2.1.room
  have hi14 : hI h 11 14 = iI (u : Int) := C.2.2.2.2.2.2.1.2.2.2.2.2.1
  have hsb : ∀ b, bF K b = true → st = true := fun b hb => by
    cases st with
    | true => rfl
    | false => rw [(P.2.2.2.2.2.1 rfl).2.1 b] at hb; cases hb
  have Z : EZ st K := fun z => ⟨(P.2.2.2.2.2.1 z).1, (P.2.2.2.2.2.1 z).2.1⟩
  obtain ⟨h1, q1, f1⟩ := C_later X st L.2.2.2.1 b1 b2 hb1 hb2
  have f1 := FrR.c (O := []) f1
  have R1 := RuC.q C f1 (by decide)
  obtain ⟨C1, L1, D1, E1⟩ := qry C L D E f1 (by unfold scQ; simp) (by simp) R1
  have g1 := C1.1.1
  obtain ⟨h2, t1, f2, l2⟩ := M_later g1 ok D1.2.1 D1.1 V.1 st E1.2.2.2.1 b1 b2 hb1 hb2 (a u) D1.2.2.1.2.2.1 (by omega)
  rw [o_later_v V] at t1
  obtain ⟨C2, L2, D2, E2⟩ := qry2 C1 L1 D1 E1 f2 (by decide) (by decide) l2
  exact ⟨_, h1, h2, q1, t1, C1.1.1, r, r', nu, ts, idm, K, cf, PF, Ks, u, m, pn, bk, nv, tv, a, M, T, G, MT, st, x, fk, fp, C2, L2, D2, E2, P.up, V⟩
theorem S_expires {n : Nat} {h : AH} (I : Inv n h) (hn : n < 512) (a1 : Int32) : StpI n h mX11_expires mX12_expires [.int a1] := by
  obtain ⟨r, r', nu, ts, idm, K, cf, PF, Ks, u, m, pn, bk, nv, tv, a, M, T, G, MT, st, x, fk, fp, C, L, D, E, P, V⟩ := I
  obtain ⟨b1, rfl, hb1⟩ := iI_self a1
  have X := C.1
  have ok := X.2.2.2.2.2.1
  have na := P.1.at
  have t0 := P.2.1 0 (by decide)
  have t2 := P.2.1 2 (by decide)
  have G6 := P.2.2.2.2.2.2.2.2.2.1
  have mo := P.2.2.2.2.2.2.1
  have mo1 := mo.1
  have mo2 := mo.2.1
  have nb := P.2.2.2.2.2.2.2.2.2.2.2.2.2.2.2.2.2
  have room := D.2.2.1.room
  have hi14 : hI h 11 14 = iI (u : Int) := C.2.2.2.2.2.2.1.2.2.2.2.2.1
  have hsb : ∀ b, bF K b = true → st = true := fun b hb => by
    cases st with
    | true => rfl
    | false => rw [(P.2.2.2.2.2.1 rfl).2.1 b] at hb; cases hb
  have Z : EZ st K := fun z => ⟨(P.2.2.2.2.2.1 z).1, (P.2.2.2.2.2.1 z).2.1⟩
  have q1 := C_expires X st L.2.2.2.1 hsb b1 hb1
  have f1 : FrC [] [] h h := FrC.rf _ _ h
  have R1 : RuC h r nu ts := X.2.2.2.1
  obtain ⟨C1, L1, D1, E1⟩ := qry C L D E f1 (by unfold scQ; simp) (by simp) R1
  have g1 := C1.1.1
  obtain ⟨h2, t1, f2, l2⟩ := M_expires g1 ok D1.2.1 D1.1 V.1 b1 hb1 (a u) D1.2.2.1.2.2.1 (by omega)
  rw [o_expires_v Z V] at t1
  obtain ⟨C2, L2, D2, E2⟩ := qry2 C1 L1 D1 E1 f2 (by decide) (by decide) l2
  exact ⟨_, h, h2, q1, t1, C1.1.1, r, r', nu, ts, idm, K, cf, PF, Ks, u, m, pn, bk, nv, tv, a, M, T, G, MT, st, x, fk, fp, C2, L2, D2, E2, P.up, V⟩
theorem S_gain {n : Nat} {h : AH} (I : Inv n h) (hn : n < 512) (a1 : Int32) : StpI n h mX11_gain mX12_gain [.int a1] := by
  obtain ⟨r, r', nu, ts, idm, K, cf, PF, Ks, u, m, pn, bk, nv, tv, a, M, T, G, MT, st, x, fk, fp, C, L, D, E, P, V⟩ := I
  obtain ⟨b1, rfl, hb1⟩ := iI_self a1
  have X := C.1
  have ok := X.2.2.2.2.2.1
  have na := P.1.at
  have t0 := P.2.1 0 (by decide)
  have t2 := P.2.1 2 (by decide)
  have G6 := P.2.2.2.2.2.2.2.2.2.1
  have mo := P.2.2.2.2.2.2.1
  have mo1 := mo.1
  have mo2 := mo.2.1
  have nb := P.2.2.2.2.2.2.2.2.2.2.2.2.2.2.2.2.2
  have room := D.2.2.1.room
  have hi14 : hI h 11 14 = iI (u : Int) := C.2.2.2.2.2.2.1.2.2.2.2.2.1
  have hsb : ∀ b, bF K b = true → st = true := fun b hb => by
    cases st with
    | true => rfl
    | false => rw [(P.2.2.2.2.2.1 rfl).2.1 b] at hb; cases hb
  have Z : EZ st K := fun z => ⟨(P.2.2.2.2.2.1 z).1, (P.2.2.2.2.2.1 z).2.1⟩
  obtain ⟨h1, q1, f1, R1⟩ := C_gain X t2 st L.2.2.2.1 b1 hb1
  obtain ⟨C1, L1, D1, E1⟩ := qry C L D E f1 (by unfold scQ; simp [clR]) (by simp) R1
  have g1 := C1.1.1
  obtain ⟨h2, t1, f2, l2⟩ := M_gain g1 ok D1.2.1 D1.1 V.1 (V.2.1 2 (by decide)) st E1.2.2.2.1 b1 hb1 (a u) D1.2.2.1.2.2.1 (by omega)
  rw [o_gain_v V] at t1
  obtain ⟨C2, L2, D2, E2⟩ := qry2 C1 L1 D1 E1 f2 (by decide) (by decide) l2
  exact ⟨_, h1, h2, q1, t1, C1.1.1, r, r', nu, ts, idm, K, cf, PF, Ks, u, m, pn, bk, nv, tv, a, M, T, G, MT, st, x, fk, fp, C2, L2, D2, E2, P.up, V⟩
theorem S_odds {n : Nat} {h : AH} (I : Inv n h) (hn : n < 512) (a1 : Int32) : StpI n h mX11_odds mX12_odds [.int a1] := by
  obtain ⟨r, r', nu, ts, idm, K, cf, PF, Ks, u, m, pn, bk, nv, tv, a, M, T, G, MT, st, x, fk, fp, C, L, D, E, P, V⟩ := I
  obtain ⟨b1, rfl, hb1⟩ := iI_self a1
  have X := C.1
  have ok := X.2.2.2.2.2.1
  have na := P.1.at
  have t0 := P.2.1 0 (by decide)
  have t2 := P.2.1 2 (by decide)
  have G6 := P.2.2.2.2.2.2.2.2.2.1
  have mo := P.2.2.2.2.2.2.1
  have mo1 := mo.1
  have mo2 := mo.2.1
  have nb := P.2.2.2.2.2.2.2.2.2.2.2.2.2.2.2.2.2
  have room := D.2.2.1.room
  have hi14 : hI h 11 14 = iI (u : Int) := C.2.2.2.2.2.2.1.2.2.2.2.2.1
  have hsb : ∀ b, bF K b = true → st = true := fun b hb => by
    cases st with
    | true => rfl
    | false => rw [(P.2.2.2.2.2.1 rfl).2.1 b] at hb; cases hb
  have Z : EZ st K := fun z => ⟨(P.2.2.2.2.2.1 z).1, (P.2.2.2.2.2.1 z).2.1⟩
  obtain ⟨h1, q1, f1⟩ := C_odds X st L.2.2.2.1 b1 hb1
  have f1 := FrR.c (O := []) f1
  have R1 := RuC.q C f1 (by decide)
  obtain ⟨C1, L1, D1, E1⟩ := qry C L D E f1 (by unfold scQ; simp) (by simp) R1
  have g1 := C1.1.1
  have t1 := M_odds g1 ok D1.2.1 D1.1 V.1 st E1.2.2.2.1 b1 hb1
  have f2 : FrM [] [] h1 h1 := FrM.rf _ _ h1
  have l2 : LogS h1 h1 := LogS.rf h1
  rw [o_odds_v Z V] at t1
  obtain ⟨C2, L2, D2, E2⟩ := qry2 C1 L1 D1 E1 f2 (by decide) (by decide) l2
  exact ⟨_, h1, h1, q1, t1, C1.1.1, r, r', nu, ts, idm, K, cf, PF, Ks, u, m, pn, bk, nv, tv, a, M, T, G, MT, st, x, fk, fp, C2, L2, D2, E2, P.up, V⟩
theorem S_windows {n : Nat} {h : AH} (I : Inv n h) (hn : n < 512) (a1 : Int32) : StpI n h mX11_windows mX12_windows [.int a1] := by
  obtain ⟨r, r', nu, ts, idm, K, cf, PF, Ks, u, m, pn, bk, nv, tv, a, M, T, G, MT, st, x, fk, fp, C, L, D, E, P, V⟩ := I
  obtain ⟨b1, rfl, hb1⟩ := iI_self a1
  have X := C.1
  have ok := X.2.2.2.2.2.1
  have na := P.1.at
  have t0 := P.2.1 0 (by decide)
  have t2 := P.2.1 2 (by decide)
  have G6 := P.2.2.2.2.2.2.2.2.2.1
  have mo := P.2.2.2.2.2.2.1
  have mo1 := mo.1
  have mo2 := mo.2.1
  have nb := P.2.2.2.2.2.2.2.2.2.2.2.2.2.2.2.2.2
  have room := D.2.2.1.room
  have hi14 : hI h 11 14 = iI (u : Int) := C.2.2.2.2.2.2.1.2.2.2.2.2.1
  have hsb : ∀ b, bF K b = true → st = true := fun b hb => by
    cases st with
    | true => rfl
    | false => rw [(P.2.2.2.2.2.1 rfl).2.1 b] at hb; cases hb
  have Z : EZ st K := fun z => ⟨(P.2.2.2.2.2.1 z).1, (P.2.2.2.2.2.1 z).2.1⟩
  obtain ⟨h1, q1, f1, R1⟩ := C_windows X t0 MT mo L.2.2.1 b1 hb1
  have f1 := FrR.c (O := []) f1
  obtain ⟨C1, L1, D1, E1⟩ := qry C L D E f1 (by unfold scQ; simp) (by simp) R1
  have g1 := C1.1.1
  obtain ⟨h2, t1, f2⟩ := M_windows g1 ok D1.2.1 D1.1 V.1 (V.2.1 0 (by decide)) MT mo E1.2.2.1 b1 hb1
  have l2 : LogS h1 h2 := LogS.fr f2 (by decide) (by decide)
  rw [o_windows_v Z V] at t1
  obtain ⟨C2, L2, D2, E2⟩ := qry2 C1 L1 D1 E1 f2 (by decide) (by decide) l2
  exact ⟨_, h1, h2, q1, t1, C1.1.1, r, r', nu, ts, idm, K, cf, PF, Ks, u, m, pn, bk, nv, tv, a, M, T, G, MT, st, x, fk, fp, C2, L2, D2, E2, P.up, V⟩
theorem S_tells {n : Nat} {h : AH} (I : Inv n h) (hn : n < 512) (a1 a2 : Int32) : StpI n h mX11_tells mX12_tells [.int a1, .int a2] := by
  obtain ⟨r, r', nu, ts, idm, K, cf, PF, Ks, u, m, pn, bk, nv, tv, a, M, T, G, MT, st, x, fk, fp, C, L, D, E, P, V⟩ := I
  obtain ⟨b1, rfl, hb1⟩ := iI_self a1
  obtain ⟨b2, rfl, hb2⟩ := iI_self a2
  have X := C.1
  have ok := X.2.2.2.2.2.1
  have na := P.1.at
  have t0 := P.2.1 0 (by decide)
  have t2 := P.2.1 2 (by decide)
  have G6 := P.2.2.2.2.2.2.2.2.2.1
  have mo := P.2.2.2.2.2.2.1
  have mo1 := mo.1
  have mo2 := mo.2.1
  have nb := P.2.2.2.2.2.2.2.2.2.2.2.2.2.2.2.2.2
  have room := D.2.2.1.room
  have hi14 : hI h 11 14 = iI (u : Int) := C.2.2.2.2.2.2.1.2.2.2.2.2.1
  have hsb : ∀ b, bF K b = true → st = true := fun b hb => by
    cases st with
    | true => rfl
    | false => rw [(P.2.2.2.2.2.1 rfl).2.1 b] at hb; cases hb
  have Z : EZ st K := fun z => ⟨(P.2.2.2.2.2.1 z).1, (P.2.2.2.2.2.1 z).2.1⟩
  obtain ⟨h1, q1, f1, R1⟩ := C_tells X t0 ⟨by omega, na.2.2.2.1.2⟩ MT mo L.2.2.1 b1 b2 hb1 hb2
  have f1 := FrR.c (O := []) f1
  obtain ⟨C1, L1, D1, E1⟩ := qry C L D E f1 (by unfold scQ; simp) (by simp) R1
  have g1 := C1.1.1
  obtain ⟨h2, t1, f2⟩ := M_tells g1 ok D1.2.1 D1.1 V.1 (V.2.1 0 (by decide)) MT mo E1.2.2.1 b1 b2 hb1 hb2
  have l2 : LogS h1 h2 := LogS.fr f2 (by decide) (by decide)
  rw [o_tells_v Z V] at t1
  obtain ⟨C2, L2, D2, E2⟩ := qry2 C1 L1 D1 E1 f2 (by decide) (by decide) l2
  exact ⟨_, h1, h2, q1, t1, C1.1.1, r, r', nu, ts, idm, K, cf, PF, Ks, u, m, pn, bk, nv, tv, a, M, T, G, MT, st, x, fk, fp, C2, L2, D2, E2, P.up, V⟩
theorem S_kept {n : Nat} {h : AH} (I : Inv n h) (hn : n < 512) (a1 a2 : Int32) : StpI n h mX11_kept mX12_kept [.int a1, .int a2] := by
  obtain ⟨r, r', nu, ts, idm, K, cf, PF, Ks, u, m, pn, bk, nv, tv, a, M, T, G, MT, st, x, fk, fp, C, L, D, E, P, V⟩ := I
  obtain ⟨b1, rfl, hb1⟩ := iI_self a1
  obtain ⟨b2, rfl, hb2⟩ := iI_self a2
  have X := C.1
  have ok := X.2.2.2.2.2.1
  have na := P.1.at
  have t0 := P.2.1 0 (by decide)
  have t2 := P.2.1 2 (by decide)
  have G6 := P.2.2.2.2.2.2.2.2.2.1
  have mo := P.2.2.2.2.2.2.1
  have mo1 := mo.1
  have mo2 := mo.2.1
  have nb := P.2.2.2.2.2.2.2.2.2.2.2.2.2.2.2.2.2
  have room := D.2.2.1.room
  have hi14 : hI h 11 14 = iI (u : Int) := C.2.2.2.2.2.2.1.2.2.2.2.2.1
  have hsb : ∀ b, bF K b = true → st = true := fun b hb => by
    cases st with
    | true => rfl
    | false => rw [(P.2.2.2.2.2.1 rfl).2.1 b] at hb; cases hb
  have Z : EZ st K := fun z => ⟨(P.2.2.2.2.2.1 z).1, (P.2.2.2.2.2.1 z).2.1⟩
  have svle : sv0 Ks K u ≤ (kK K).length := sv0_le P.2.2.2.2.1
  have q1 := C_kept X (by omega) (C.2.2.2.2.2.2.2.2.kept svle) b1 b2 hb1 hb2
  have f1 : FrC [] [] h h := FrC.rf _ _ h
  have R1 : RuC h r nu ts := X.2.2.2.1
  obtain ⟨C1, L1, D1, E1⟩ := qry C L D E f1 (by unfold scQ; simp) (by simp) R1
  have g1 := C1.1.1
  have t1 := M_kept g1 D1.2.1 (by omega) b1 b2 hb1 hb2
  have f2 : FrM [] [] h h := FrM.rf _ _ h
  have l2 : LogS h h := LogS.rf h
  obtain ⟨C2, L2, D2, E2⟩ := qry2 C1 L1 D1 E1 f2 (by decide) (by decide) l2
  exact ⟨_, h, h, q1, t1, C1.1.1, r, r', nu, ts, idm, K, cf, PF, Ks, u, m, pn, bk, nv, tv, a, M, T, G, MT, st, x, fk, fp, C2, L2, D2, E2, P.up, V⟩
