/-! ===== by program: mk20.py: methods ===== -/
/-! PieceStoreModel.usedAgain -/
theorem dX12_usedAgain_0 : decode cX12_usedAgain 0 = .ok (.iload_n 3, 1) := by decide +kernel
theorem dX12_usedAgain_1 : decode cX12_usedAgain 1 = .ok (.istore 4, 2) := by decide +kernel
theorem dX12_usedAgain_3 : decode cX12_usedAgain 3 = .ok (.iload 4, 2) := by decide +kernel
theorem dX12_usedAgain_5 : decode cX12_usedAgain 5 = .ok (.aload_n 0, 1) := by decide +kernel
theorem dX12_usedAgain_6 : decode cX12_usedAgain 6 = .ok (.iload_n 1, 1) := by decide +kernel
theorem dX12_usedAgain_7 : decode cX12_usedAgain 7 = .ok (.invokevirtual 435, 3) := by decide +kernel
theorem dX12_usedAgain_10 : decode cX12_usedAgain 10 = .ok (.if_icmp .ge 27, 3) := by decide +kernel
theorem dX12_usedAgain_13 : decode cX12_usedAgain 13 = .ok (.aload_n 0, 1) := by decide +kernel
theorem dX12_usedAgain_14 : decode cX12_usedAgain 14 = .ok (.aload_n 0, 1) := by decide +kernel
theorem dX12_usedAgain_15 : decode cX12_usedAgain 15 = .ok (.iload_n 1, 1) := by decide +kernel
theorem dX12_usedAgain_16 : decode cX12_usedAgain 16 = .ok (.iload 4, 2) := by decide +kernel
theorem dX12_usedAgain_18 : decode cX12_usedAgain 18 = .ok (.invokevirtual 438, 3) := by decide +kernel
theorem dX12_usedAgain_21 : decode cX12_usedAgain 21 = .ok (.invokevirtual 444, 3) := by decide +kernel
theorem dX12_usedAgain_24 : decode cX12_usedAgain 24 = .ok (.iload_n 2, 1) := by decide +kernel
theorem dX12_usedAgain_25 : decode cX12_usedAgain 25 = .ok (.if_icmp .ne 6, 3) := by decide +kernel
theorem dX12_usedAgain_28 : decode cX12_usedAgain 28 = .ok (.iload 4, 2) := by decide +kernel
theorem dX12_usedAgain_30 : decode cX12_usedAgain 30 = .ok (.ireturn, 1) := by decide +kernel
theorem dX12_usedAgain_31 : decode cX12_usedAgain 31 = .ok (.iinc 4 1, 3) := by decide +kernel
theorem dX12_usedAgain_34 : decode cX12_usedAgain 34 = .ok (.goto (-31), 3) := by decide +kernel
theorem dX12_usedAgain_37 : decode cX12_usedAgain 37 = .ok (.ldc_w 548, 3) := by decide +kernel
theorem dX12_usedAgain_40 : decode cX12_usedAgain 40 = .ok (.ireturn, 1) := by decide +kernel
abbrev MX12_usedAgain : MI := (RX12, cX12_usedAgain, 5, 2, false)
def lcX12_usedAgain_1 : Ex Bool := (ltI (lvI 4) (calX decI (ckV 12 1) mX12_manyOf (agC va_rf (lvR 0) (agC Value.int (lvI 1) agN))))
def lbX12_usedAgain_1 : St := (forB (ifS (eqI (calX decI (ckV 12 1) mX12_boxOf (agC va_rf (lvR 0) (agC Value.int (calX decI (ckV 12 2) mX12_pieceOf (agC va_rf (lvR 0) (agC Value.int (lvI 1) (agC Value.int (lvI 4) agN)))) agN))) (lvI 2)) (retI (lvI 4))) (incI 4 (iI 1)))
def bX12_usedAgain : St := (seqS (scS 4 (seqS (lsI 4 (lvI 3)) (whileS lcX12_usedAgain_1 lbX12_usedAgain_1))) (retI (ciI (iI 100000000))))
theorem jX12_usedAgain : JS MX12_usedAgain 0 0 0 41 [] bX12_usedAgain :=
  (JS.seq (pc1 := 37) (JS.sc (JS.seq (pc1 := 3) (JS.is2 (pc1 := 1) (JX.il (k := 3) rfl dX12_usedAgain_0) (show 4 < 5 by decide) dX12_usedAgain_1) (JS.while (l := 37) (lb := 37) (pc1 := 13) (pc2 := 34) (pc3 := 37) (CJ.lt_f (tgt := 37) (pc1 := 5) (pc2 := 10) (JX.il2 dX12_usedAgain_3) (JX.call (pc1 := 7) decI_ok (JA.r (JX.al (k := 0) rfl dX12_usedAgain_5) (JA.i (JX.il (k := 1) rfl dX12_usedAgain_6) JA.nil)) aX12_manyOf (RunK.V (i := 435) (c := 12) (n := 1) cl12 rfl (CN nX12_manyOf (by decide) (by decide)) gw1856 gw1858 gs114 dX12_usedAgain_7) (by decide)) dX12_usedAgain_10 rfl) (JS.forb (pc1 := 31) (JS.iff (l := 31) (pc1 := 28) (CJ.eq_f (tgt := 31) (pc1 := 24) (pc2 := 25) (JX.call (pc1 := 21) decI_ok (JA.r (JX.al (k := 0) rfl dX12_usedAgain_13) (JA.i (JX.call (pc1 := 18) decI_ok (JA.r (JX.al (k := 0) rfl dX12_usedAgain_14) (JA.i (JX.il (k := 1) rfl dX12_usedAgain_15) (JA.i (JX.il2 dX12_usedAgain_16) JA.nil))) aX12_pieceOf (RunK.V (i := 438) (c := 12) (n := 2) cl12 rfl (CN nX12_pieceOf (by decide) (by decide)) gw1860 gw1862 gs115 dX12_usedAgain_18) (by decide)) JA.nil)) aX12_boxOf (RunK.V (i := 444) (c := 12) (n := 1) cl12 rfl (CN nX12_boxOf (by decide) (by decide)) gw1828 gw1830 gs108 dX12_usedAgain_21) (by decide)) (JX.il (k := 2) rfl dX12_usedAgain_24) dX12_usedAgain_25 rfl) (JS.retI (pc1 := 30) (JX.il2 dX12_usedAgain_28) dX12_usedAgain_30) (Or.inl rfl)) (JS.inc (n := 1) rfl (show 4 < 5 by decide) dX12_usedAgain_31)) dX12_usedAgain_34 rfl (Or.inl rfl) (Or.inl rfl)))) (JS.retI (pc1 := 40) (JX.ldcw (i := 548) (by decide) gw1944 dX12_usedAgain_37) dX12_usedAgain_40))
def mX12_usedAgain : MS := runM 5 (some (.int)) bX12_usedAgain
theorem aX12_usedAgain : MA yX12_usedAgain cX12_usedAgain 5 (some (.int)) 2 mX12_usedAgain := MA.of (plainFor_of_name (by decide)) jX12_usedAgain
theorem eX12_usedAgain (a0 : Nat) (a1 : Int32) (a2 : Int32) (a3 : Int32) (h : AH) : mX12_usedAgain [.ref a0, .int a1, .int a2, .int a3] h = (bX12_usedAgain [.val (.ref a0), .val (.int a1), .val (.int a2), .val (.int a3), .unset] h).bind (finM (some (.int))) := rfl
/-! PieceStoreModel.cleared -/
theorem dX12_cleared_0 : decode cX12_cleared 0 = .ok (.iconst 0, 1) := by decide +kernel
theorem dX12_cleared_1 : decode cX12_cleared 1 = .ok (.istore 4, 2) := by decide +kernel
theorem dX12_cleared_3 : decode cX12_cleared 3 = .ok (.iconst 1, 1) := by decide +kernel
theorem dX12_cleared_4 : decode cX12_cleared 4 = .ok (.istore 5, 2) := by decide +kernel
theorem dX12_cleared_6 : decode cX12_cleared 6 = .ok (.iload 5, 2) := by decide +kernel
theorem dX12_cleared_8 : decode cX12_cleared 8 = .ok (.aload_n 0, 1) := by decide +kernel
theorem dX12_cleared_9 : decode cX12_cleared 9 = .ok (.bipush 7, 2) := by decide +kernel
theorem dX12_cleared_11 : decode cX12_cleared 11 = .ok (.invokevirtual 414, 3) := by decide +kernel
theorem dX12_cleared_14 : decode cX12_cleared 14 = .ok (.if_icmp .ge 102, 3) := by decide +kernel
theorem dX12_cleared_17 : decode cX12_cleared 17 = .ok (.iload_n 2, 1) := by decide +kernel
theorem dX12_cleared_18 : decode cX12_cleared 18 = .ok (.ifCond .ne 27, 3) := by decide +kernel
theorem dX12_cleared_21 : decode cX12_cleared 21 = .ok (.aload_n 0, 1) := by decide +kernel
theorem dX12_cleared_22 : decode cX12_cleared 22 = .ok (.getfield 200, 3) := by decide +kernel
theorem dX12_cleared_25 : decode cX12_cleared 25 = .ok (.iload 5, 2) := by decide +kernel
theorem dX12_cleared_27 : decode cX12_cleared 27 = .ok (.iaload, 1) := by decide +kernel
theorem dX12_cleared_28 : decode cX12_cleared 28 = .ok (.aload_n 0, 1) := by decide +kernel
theorem dX12_cleared_29 : decode cX12_cleared 29 = .ok (.getfield 200, 3) := by decide +kernel
theorem dX12_cleared_32 : decode cX12_cleared 32 = .ok (.iload 4, 2) := by decide +kernel
theorem dX12_cleared_34 : decode cX12_cleared 34 = .ok (.iaload, 1) := by decide +kernel
theorem dX12_cleared_35 : decode cX12_cleared 35 = .ok (.if_icmp .ge 75, 3) := by decide +kernel
theorem dX12_cleared_38 : decode cX12_cleared 38 = .ok (.iload 5, 2) := by decide +kernel
theorem dX12_cleared_40 : decode cX12_cleared 40 = .ok (.istore 4, 2) := by decide +kernel
theorem dX12_cleared_42 : decode cX12_cleared 42 = .ok (.goto 68, 3) := by decide +kernel
theorem dX12_cleared_45 : decode cX12_cleared 45 = .ok (.aload_n 0, 1) := by decide +kernel
theorem dX12_cleared_46 : decode cX12_cleared 46 = .ok (.iload_n 1, 1) := by decide +kernel
theorem dX12_cleared_47 : decode cX12_cleared 47 = .ok (.aload_n 0, 1) := by decide +kernel
theorem dX12_cleared_48 : decode cX12_cleared 48 = .ok (.getfield 197, 3) := by decide +kernel
theorem dX12_cleared_51 : decode cX12_cleared 51 = .ok (.iload 5, 2) := by decide +kernel
theorem dX12_cleared_53 : decode cX12_cleared 53 = .ok (.iaload, 1) := by decide +kernel
theorem dX12_cleared_54 : decode cX12_cleared 54 = .ok (.iload_n 3, 1) := by decide +kernel
theorem dX12_cleared_55 : decode cX12_cleared 55 = .ok (.invokevirtual 549, 3) := by decide +kernel
theorem dX12_cleared_58 : decode cX12_cleared 58 = .ok (.istore 6, 2) := by decide +kernel
theorem dX12_cleared_60 : decode cX12_cleared 60 = .ok (.aload_n 0, 1) := by decide +kernel
theorem dX12_cleared_61 : decode cX12_cleared 61 = .ok (.iload_n 1, 1) := by decide +kernel
theorem dX12_cleared_62 : decode cX12_cleared 62 = .ok (.aload_n 0, 1) := by decide +kernel
theorem dX12_cleared_63 : decode cX12_cleared 63 = .ok (.getfield 197, 3) := by decide +kernel
theorem dX12_cleared_66 : decode cX12_cleared 66 = .ok (.iload 4, 2) := by decide +kernel
theorem dX12_cleared_68 : decode cX12_cleared 68 = .ok (.iaload, 1) := by decide +kernel
theorem dX12_cleared_69 : decode cX12_cleared 69 = .ok (.iload_n 3, 1) := by decide +kernel
theorem dX12_cleared_70 : decode cX12_cleared 70 = .ok (.invokevirtual 549, 3) := by decide +kernel
theorem dX12_cleared_73 : decode cX12_cleared 73 = .ok (.istore 7, 2) := by decide +kernel
theorem dX12_cleared_75 : decode cX12_cleared 75 = .ok (.iload 6, 2) := by decide +kernel
theorem dX12_cleared_77 : decode cX12_cleared 77 = .ok (.iload 7, 2) := by decide +kernel
theorem dX12_cleared_79 : decode cX12_cleared 79 = .ok (.if_icmp .gt 27, 3) := by decide +kernel
theorem dX12_cleared_82 : decode cX12_cleared 82 = .ok (.iload 6, 2) := by decide +kernel
theorem dX12_cleared_84 : decode cX12_cleared 84 = .ok (.iload 7, 2) := by decide +kernel
theorem dX12_cleared_86 : decode cX12_cleared 86 = .ok (.if_icmp .ne 24, 3) := by decide +kernel
theorem dX12_cleared_89 : decode cX12_cleared 89 = .ok (.aload_n 0, 1) := by decide +kernel
theorem dX12_cleared_90 : decode cX12_cleared 90 = .ok (.getfield 197, 3) := by decide +kernel
theorem dX12_cleared_93 : decode cX12_cleared 93 = .ok (.iload 5, 2) := by decide +kernel
theorem dX12_cleared_95 : decode cX12_cleared 95 = .ok (.iaload, 1) := by decide +kernel
theorem dX12_cleared_96 : decode cX12_cleared 96 = .ok (.aload_n 0, 1) := by decide +kernel
theorem dX12_cleared_97 : decode cX12_cleared 97 = .ok (.getfield 197, 3) := by decide +kernel
theorem dX12_cleared_100 : decode cX12_cleared 100 = .ok (.iload 4, 2) := by decide +kernel
theorem dX12_cleared_102 : decode cX12_cleared 102 = .ok (.iaload, 1) := by decide +kernel
theorem dX12_cleared_103 : decode cX12_cleared 103 = .ok (.if_icmp .ge 7, 3) := by decide +kernel
theorem dX12_cleared_106 : decode cX12_cleared 106 = .ok (.iload 5, 2) := by decide +kernel
theorem dX12_cleared_108 : decode cX12_cleared 108 = .ok (.istore 4, 2) := by decide +kernel
theorem dX12_cleared_110 : decode cX12_cleared 110 = .ok (.iinc 5 1, 3) := by decide +kernel
theorem dX12_cleared_113 : decode cX12_cleared 113 = .ok (.goto (-107), 3) := by decide +kernel
theorem dX12_cleared_116 : decode cX12_cleared 116 = .ok (.iload 4, 2) := by decide +kernel
theorem dX12_cleared_118 : decode cX12_cleared 118 = .ok (.ireturn, 1) := by decide +kernel
abbrev MX12_cleared : MI := (RX12, cX12_cleared, 8, 3, false)
def lcX12_cleared_1 : Ex Bool := (ltI (lvI 5) (calX decI (ckV 12 1) mX12_by (agC va_rf (lvR 0) (agC Value.int (ciI (iI 7)) agN))))
def lbX12_cleared_1 : St := (forB (scS 6 (seqS (ifS (eq0 (lvI 2)) (seqS (ifS (ltI (aldI 2 (getR 12 61 (lvR 0)) (lvI 5)) (aldI 2 (getR 12 61 (lvR 0)) (lvI 4))) (lsI 4 (lvI 5))) contS)) (seqS (lsI 6 (calX decI (ckV 12 3) mX12_usedAgain (agC va_rf (lvR 0) (agC Value.int (lvI 1) (agC Value.int (aldI 2 (getR 12 60 (lvR 0)) (lvI 5)) (agC Value.int (lvI 3) agN)))))) (seqS (lsI 7 (calX decI (ckV 12 3) mX12_usedAgain (agC va_rf (lvR 0) (agC Value.int (lvI 1) (agC Value.int (aldI 2 (getR 12 60 (lvR 0)) (lvI 4)) (agC Value.int (lvI 3) agN)))))) (ifS (orX (gtI (lvI 6) (lvI 7)) (andX (eqI (lvI 6) (lvI 7)) (ltI (aldI 2 (getR 12 60 (lvR 0)) (lvI 5)) (aldI 2 (getR 12 60 (lvR 0)) (lvI 4))))) (lsI 4 (lvI 5))))))) (incI 5 (iI 1)))
def bX12_cleared : St := (seqS (lsI 4 (ciI (iI 0))) (seqS (scS 5 (seqS (lsI 5 (ciI (iI 1))) (whileS lcX12_cleared_1 lbX12_cleared_1))) (retI (lvI 4))))
theorem jX12_cleared : JS MX12_cleared 0 0 0 119 [] bX12_cleared :=
  (JS.seq (pc1 := 3) (JS.is2 (pc1 := 1) (JX.ic (n := 0) rfl dX12_cleared_0) (show 4 < 8 by decide) dX12_cleared_1) (JS.seq (pc1 := 116) (JS.sc (JS.seq (pc1 := 6) (JS.is2 (pc1 := 4) (JX.ic (n := 1) rfl dX12_cleared_3) (show 5 < 8 by decide) dX12_cleared_4) (JS.while (l := 116) (lb := 116) (pc1 := 17) (pc2 := 113) (pc3 := 116) (CJ.lt_f (tgt := 116) (pc1 := 8) (pc2 := 14) (JX.il2 dX12_cleared_6) (JX.call (pc1 := 11) decI_ok (JA.r (JX.al (k := 0) rfl dX12_cleared_8) (JA.i (JX.bp (n := 7) kb7 dX12_cleared_9) JA.nil)) aX12_by (RunK.V (i := 414) (c := 12) (n := 1) cl12 rfl (CN nX12_by (by decide) (by decide)) gw1714 gw1716 gs83 dX12_cleared_11) (by decide)) dX12_cleared_14 rfl) (JS.forb (pc1 := 110) (JS.sc (JS.seq (pc1 := 45) (JS.iff (l := 45) (pc1 := 21) (CJ.eq0_f (tgt := 45) (pc1 := 18) (JX.il (k := 2) rfl dX12_cleared_17) dX12_cleared_18 rfl) (JS.seqc (pc1 := 42) (JS.iff (l := 110) (pc1 := 38) (CJ.lt_f (tgt := 110) (pc1 := 28) (pc2 := 35) (JX.iald (pc1 := 25) (pc2 := 27) (JX.getR (pc1 := 22) (c := 12) (k := 61) (i := 200) (JX.al (k := 0) rfl dX12_cleared_21) cl12 (by decide) rfl fk12_200 dX12_cleared_22) (JX.il2 dX12_cleared_25) dX12_cleared_27) (JX.iald (pc1 := 32) (pc2 := 34) (JX.getR (pc1 := 29) (c := 12) (k := 61) (i := 200) (JX.al (k := 0) rfl dX12_cleared_28) cl12 (by decide) rfl fk12_200 dX12_cleared_29) (JX.il2 dX12_cleared_32) dX12_cleared_34) dX12_cleared_35 rfl) (JS.is2 (pc1 := 40) (JX.il2 dX12_cleared_38) (show 4 < 8 by decide) dX12_cleared_40) (Or.inr (List.mem_singleton.mpr rfl))) dX12_cleared_42 rfl) (Or.inl rfl)) (JS.seq (pc1 := 60) (JS.is2 (pc1 := 58) (JX.call (pc1 := 55) decI_ok (JA.r (JX.al (k := 0) rfl dX12_cleared_45) (JA.i (JX.il (k := 1) rfl dX12_cleared_46) (JA.i (JX.iald (pc1 := 51) (pc2 := 53) (JX.getR (pc1 := 48) (c := 12) (k := 60) (i := 197) (JX.al (k := 0) rfl dX12_cleared_47) cl12 (by decide) rfl fk12_197 dX12_cleared_48) (JX.il2 dX12_cleared_51) dX12_cleared_53) (JA.i (JX.il (k := 3) rfl dX12_cleared_54) JA.nil)))) aX12_usedAgain (RunK.V (i := 549) (c := 12) (n := 3) cl12 rfl (CN nX12_usedAgain (by decide) (by decide)) gw1940 gw1942 gs126 dX12_cleared_55) (by decide)) (show 6 < 8 by decide) dX12_cleared_58) (JS.seq (pc1 := 75) (JS.is2 (pc1 := 73) (JX.call (pc1 := 70) decI_ok (JA.r (JX.al (k := 0) rfl dX12_cleared_60) (JA.i (JX.il (k := 1) rfl dX12_cleared_61) (JA.i (JX.iald (pc1 := 66) (pc2 := 68) (JX.getR (pc1 := 63) (c := 12) (k := 60) (i := 197) (JX.al (k := 0) rfl dX12_cleared_62) cl12 (by decide) rfl fk12_197 dX12_cleared_63) (JX.il2 dX12_cleared_66) dX12_cleared_68) (JA.i (JX.il (k := 3) rfl dX12_cleared_69) JA.nil)))) aX12_usedAgain (RunK.V (i := 549) (c := 12) (n := 3) cl12 rfl (CN nX12_usedAgain (by decide) (by decide)) gw1940 gw1942 gs126 dX12_cleared_70) (by decide)) (show 7 < 8 by decide) dX12_cleared_73) (JS.iff (l := 110) (pc1 := 106) (CJ.or_f (l := 106) (pc1 := 82) (CJ.gt_t (tgt := 106) (pc1 := 77) (pc2 := 79) (JX.il2 dX12_cleared_75) (JX.il2 dX12_cleared_77) dX12_cleared_79 rfl) (CJ.and_f (pc1 := 89) (CJ.eq_f (tgt := 110) (pc1 := 84) (pc2 := 86) (JX.il2 dX12_cleared_82) (JX.il2 dX12_cleared_84) dX12_cleared_86 rfl) (CJ.lt_f (tgt := 110) (pc1 := 96) (pc2 := 103) (JX.iald (pc1 := 93) (pc2 := 95) (JX.getR (pc1 := 90) (c := 12) (k := 60) (i := 197) (JX.al (k := 0) rfl dX12_cleared_89) cl12 (by decide) rfl fk12_197 dX12_cleared_90) (JX.il2 dX12_cleared_93) dX12_cleared_95) (JX.iald (pc1 := 100) (pc2 := 102) (JX.getR (pc1 := 97) (c := 12) (k := 60) (i := 197) (JX.al (k := 0) rfl dX12_cleared_96) cl12 (by decide) rfl fk12_197 dX12_cleared_97) (JX.il2 dX12_cleared_100) dX12_cleared_102) dX12_cleared_103 rfl)) (Or.inl rfl)) (JS.is2 (pc1 := 108) (JX.il2 dX12_cleared_106) (show 4 < 8 by decide) dX12_cleared_108) (Or.inl rfl)))))) (JS.inc (n := 1) rfl (show 5 < 8 by decide) dX12_cleared_110)) dX12_cleared_113 rfl (Or.inl rfl) (Or.inl rfl)))) (JS.retI (pc1 := 118) (JX.il2 dX12_cleared_116) dX12_cleared_118)))
def mX12_cleared : MS := runM 8 (some (.int)) bX12_cleared
theorem aX12_cleared : MA yX12_cleared cX12_cleared 8 (some (.int)) 3 mX12_cleared := MA.of (plainFor_of_name (by decide)) jX12_cleared
theorem eX12_cleared (a0 : Nat) (a1 : Int32) (a2 : Int32) (a3 : Int32) (h : AH) : mX12_cleared [.ref a0, .int a1, .int a2, .int a3] h = (bX12_cleared [.val (.ref a0), .val (.int a1), .val (.int a2), .val (.int a3), .unset, .unset, .unset, .unset] h).bind (finM (some (.int))) := rfl
/-! PieceStoreModel.fetches -/
theorem dX12_fetches_0 : decode cX12_fetches 0 = .ok (.aload_n 0, 1) := by decide +kernel
theorem dX12_fetches_1 : decode cX12_fetches 1 = .ok (.iload_n 1, 1) := by decide +kernel
theorem dX12_fetches_2 : decode cX12_fetches 2 = .ok (.invokevirtual 432, 3) := by decide +kernel
theorem dX12_fetches_5 : decode cX12_fetches 5 = .ok (.ifCond .eq 12, 3) := by decide +kernel
theorem dX12_fetches_8 : decode cX12_fetches 8 = .ok (.iload_n 2, 1) := by decide +kernel
theorem dX12_fetches_9 : decode cX12_fetches 9 = .ok (.iconst 0, 1) := by decide +kernel
theorem dX12_fetches_10 : decode cX12_fetches 10 = .ok (.iconst 1, 1) := by decide +kernel
theorem dX12_fetches_11 : decode cX12_fetches 11 = .ok (.invokestatic 313, 3) := by decide +kernel
theorem dX12_fetches_14 : decode cX12_fetches 14 = .ok (.ifCond .ne 5, 3) := by decide +kernel
theorem dX12_fetches_17 : decode cX12_fetches 17 = .ok (.iconst (-1), 1) := by decide +kernel
theorem dX12_fetches_18 : decode cX12_fetches 18 = .ok (.ireturn, 1) := by decide +kernel
theorem dX12_fetches_19 : decode cX12_fetches 19 = .ok (.iconst 0, 1) := by decide +kernel
theorem dX12_fetches_20 : decode cX12_fetches 20 = .ok (.istore_n 3, 1) := by decide +kernel
theorem dX12_fetches_21 : decode cX12_fetches 21 = .ok (.iconst 0, 1) := by decide +kernel
theorem dX12_fetches_22 : decode cX12_fetches 22 = .ok (.istore 4, 2) := by decide +kernel
theorem dX12_fetches_24 : decode cX12_fetches 24 = .ok (.iconst 0, 1) := by decide +kernel
theorem dX12_fetches_25 : decode cX12_fetches 25 = .ok (.istore 5, 2) := by decide +kernel
theorem dX12_fetches_27 : decode cX12_fetches 27 = .ok (.iload 5, 2) := by decide +kernel
theorem dX12_fetches_29 : decode cX12_fetches 29 = .ok (.aload_n 0, 1) := by decide +kernel
theorem dX12_fetches_30 : decode cX12_fetches 30 = .ok (.iload_n 1, 1) := by decide +kernel
theorem dX12_fetches_31 : decode cX12_fetches 31 = .ok (.invokevirtual 435, 3) := by decide +kernel
theorem dX12_fetches_34 : decode cX12_fetches 34 = .ok (.if_icmp .ge 120, 3) := by decide +kernel
theorem dX12_fetches_37 : decode cX12_fetches 37 = .ok (.aload_n 0, 1) := by decide +kernel
theorem dX12_fetches_38 : decode cX12_fetches 38 = .ok (.aload_n 0, 1) := by decide +kernel
theorem dX12_fetches_39 : decode cX12_fetches 39 = .ok (.iload_n 1, 1) := by decide +kernel
theorem dX12_fetches_40 : decode cX12_fetches 40 = .ok (.iload 5, 2) := by decide +kernel
theorem dX12_fetches_42 : decode cX12_fetches 42 = .ok (.invokevirtual 438, 3) := by decide +kernel
theorem dX12_fetches_45 : decode cX12_fetches 45 = .ok (.invokevirtual 444, 3) := by decide +kernel
theorem dX12_fetches_48 : decode cX12_fetches 48 = .ok (.istore 6, 2) := by decide +kernel
theorem dX12_fetches_50 : decode cX12_fetches 50 = .ok (.iconst (-1), 1) := by decide +kernel
theorem dX12_fetches_51 : decode cX12_fetches 51 = .ok (.istore 7, 2) := by decide +kernel
theorem dX12_fetches_53 : decode cX12_fetches 53 = .ok (.iconst 0, 1) := by decide +kernel
theorem dX12_fetches_54 : decode cX12_fetches 54 = .ok (.istore 8, 2) := by decide +kernel
theorem dX12_fetches_56 : decode cX12_fetches 56 = .ok (.iload 8, 2) := by decide +kernel
theorem dX12_fetches_58 : decode cX12_fetches 58 = .ok (.iload_n 3, 1) := by decide +kernel
theorem dX12_fetches_59 : decode cX12_fetches 59 = .ok (.if_icmp .ge 25, 3) := by decide +kernel
theorem dX12_fetches_62 : decode cX12_fetches 62 = .ok (.aload_n 0, 1) := by decide +kernel
theorem dX12_fetches_63 : decode cX12_fetches 63 = .ok (.getfield 197, 3) := by decide +kernel
theorem dX12_fetches_66 : decode cX12_fetches 66 = .ok (.iload 8, 2) := by decide +kernel
theorem dX12_fetches_68 : decode cX12_fetches 68 = .ok (.iaload, 1) := by decide +kernel
theorem dX12_fetches_69 : decode cX12_fetches 69 = .ok (.iload 6, 2) := by decide +kernel
theorem dX12_fetches_71 : decode cX12_fetches 71 = .ok (.if_icmp .ne 7, 3) := by decide +kernel
theorem dX12_fetches_74 : decode cX12_fetches 74 = .ok (.iload 8, 2) := by decide +kernel
theorem dX12_fetches_76 : decode cX12_fetches 76 = .ok (.istore 7, 2) := by decide +kernel
theorem dX12_fetches_78 : decode cX12_fetches 78 = .ok (.iinc 8 1, 3) := by decide +kernel
theorem dX12_fetches_81 : decode cX12_fetches 81 = .ok (.goto (-25), 3) := by decide +kernel
theorem dX12_fetches_84 : decode cX12_fetches 84 = .ok (.iload 7, 2) := by decide +kernel
theorem dX12_fetches_86 : decode cX12_fetches 86 = .ok (.iconst (-1), 1) := by decide +kernel
theorem dX12_fetches_87 : decode cX12_fetches 87 = .ok (.if_icmp .ne 52, 3) := by decide +kernel
theorem dX12_fetches_90 : decode cX12_fetches 90 = .ok (.iinc 4 1, 3) := by decide +kernel
theorem dX12_fetches_93 : decode cX12_fetches 93 = .ok (.iload_n 3, 1) := by decide +kernel
theorem dX12_fetches_94 : decode cX12_fetches 94 = .ok (.aload_n 0, 1) := by decide +kernel
theorem dX12_fetches_95 : decode cX12_fetches 95 = .ok (.bipush 7, 2) := by decide +kernel
theorem dX12_fetches_97 : decode cX12_fetches 97 = .ok (.invokevirtual 414, 3) := by decide +kernel
theorem dX12_fetches_100 : decode cX12_fetches 100 = .ok (.if_icmp .ge 7, 3) := by decide +kernel
theorem dX12_fetches_103 : decode cX12_fetches 103 = .ok (.iload_n 3, 1) := by decide +kernel
theorem dX12_fetches_104 : decode cX12_fetches 104 = .ok (.goto 11, 3) := by decide +kernel
theorem dX12_fetches_107 : decode cX12_fetches 107 = .ok (.aload_n 0, 1) := by decide +kernel
theorem dX12_fetches_108 : decode cX12_fetches 108 = .ok (.iload_n 1, 1) := by decide +kernel
theorem dX12_fetches_109 : decode cX12_fetches 109 = .ok (.iload_n 2, 1) := by decide +kernel
theorem dX12_fetches_110 : decode cX12_fetches 110 = .ok (.iload 5, 2) := by decide +kernel
theorem dX12_fetches_112 : decode cX12_fetches 112 = .ok (.invokevirtual 553, 3) := by decide +kernel
theorem dX12_fetches_115 : decode cX12_fetches 115 = .ok (.istore 7, 2) := by decide +kernel
theorem dX12_fetches_117 : decode cX12_fetches 117 = .ok (.iload_n 3, 1) := by decide +kernel
theorem dX12_fetches_118 : decode cX12_fetches 118 = .ok (.aload_n 0, 1) := by decide +kernel
theorem dX12_fetches_119 : decode cX12_fetches 119 = .ok (.bipush 7, 2) := by decide +kernel
theorem dX12_fetches_121 : decode cX12_fetches 121 = .ok (.invokevirtual 414, 3) := by decide +kernel
theorem dX12_fetches_124 : decode cX12_fetches 124 = .ok (.if_icmp .ge 6, 3) := by decide +kernel
theorem dX12_fetches_127 : decode cX12_fetches 127 = .ok (.iinc 3 1, 3) := by decide +kernel
theorem dX12_fetches_130 : decode cX12_fetches 130 = .ok (.aload_n 0, 1) := by decide +kernel
theorem dX12_fetches_131 : decode cX12_fetches 131 = .ok (.getfield 197, 3) := by decide +kernel
theorem dX12_fetches_134 : decode cX12_fetches 134 = .ok (.iload 7, 2) := by decide +kernel
theorem dX12_fetches_136 : decode cX12_fetches 136 = .ok (.iload 6, 2) := by decide +kernel
theorem dX12_fetches_138 : decode cX12_fetches 138 = .ok (.iastore, 1) := by decide +kernel
theorem dX12_fetches_139 : decode cX12_fetches 139 = .ok (.aload_n 0, 1) := by decide +kernel
theorem dX12_fetches_140 : decode cX12_fetches 140 = .ok (.getfield 200, 3) := by decide +kernel
theorem dX12_fetches_143 : decode cX12_fetches 143 = .ok (.iload 7, 2) := by decide +kernel
theorem dX12_fetches_145 : decode cX12_fetches 145 = .ok (.iload 5, 2) := by decide +kernel
theorem dX12_fetches_147 : decode cX12_fetches 147 = .ok (.iastore, 1) := by decide +kernel
theorem dX12_fetches_148 : decode cX12_fetches 148 = .ok (.iinc 5 1, 3) := by decide +kernel
theorem dX12_fetches_151 : decode cX12_fetches 151 = .ok (.goto (-124), 3) := by decide +kernel
theorem dX12_fetches_154 : decode cX12_fetches 154 = .ok (.iload 4, 2) := by decide +kernel
theorem dX12_fetches_156 : decode cX12_fetches 156 = .ok (.ireturn, 1) := by decide +kernel
abbrev MX12_fetches : MI := (RX12, cX12_fetches, 9, 4, false)
def lcX12_fetches_1 : Ex Bool := (ltI (lvI 8) (lvI 3))
def lbX12_fetches_1 : St := (forB (ifS (eqI (aldI 2 (getR 12 60 (lvR 0)) (lvI 8)) (lvI 6)) (lsI 7 (lvI 8))) (incI 8 (iI 1)))
def lcX12_fetches_2 : Ex Bool := (ltI (lvI 5) (calX decI (ckV 12 1) mX12_manyOf (agC va_rf (lvR 0) (agC Value.int (lvI 1) agN))))
def lbX12_fetches_2 : St := (forB (scS 6 (seqS (lsI 6 (calX decI (ckV 12 1) mX12_boxOf (agC va_rf (lvR 0) (agC Value.int (calX decI (ckV 12 2) mX12_pieceOf (agC va_rf (lvR 0) (agC Value.int (lvI 1) (agC Value.int (lvI 5) agN)))) agN)))) (seqS (lsI 7 (ciI (iI (-1)))) (seqS (scS 8 (seqS (lsI 8 (ciI (iI 0))) (whileS lcX12_fetches_1 lbX12_fetches_1))) (seqS (ifS (eqI (lvI 7) (ciI (iI (-1)))) (seqS (incI 4 (iI 1)) (seqS (lsI 7 (iteX (ltI (lvI 3) (calX decI (ckV 12 1) mX12_by (agC va_rf (lvR 0) (agC Value.int (ciI (iI 7)) agN)))) (lvI 3) (calX decI (ckV 12 3) mX12_cleared (agC va_rf (lvR 0) (agC Value.int (lvI 1) (agC Value.int (lvI 2) (agC Value.int (lvI 5) agN))))))) (seqS (ifS (ltI (lvI 3) (calX decI (ckV 12 1) mX12_by (agC va_rf (lvR 0) (agC Value.int (ciI (iI 7)) agN)))) (incI 3 (iI 1))) (astI (getR 12 60 (lvR 0)) (lvI 7) (lvI 6)))))) (astI (getR 12 61 (lvR 0)) (lvI 7) (lvI 5))))))) (incI 5 (iI 1)))
def bX12_fetches : St := (seqS (ifS (orX (notX (ne0 (calX decI (ckV 12 1) mX12_isBackup (agC va_rf (lvR 0) (agC Value.int (lvI 1) agN))))) (notX (ne0 (calX decI (ckS 3) mX12_is (agC Value.int (lvI 2) (agC Value.int (ciI (iI 0)) (agC Value.int (ciI (iI 1)) agN))))))) (retI (ciI (iI (-1))))) (seqS (lsI 3 (ciI (iI 0))) (seqS (lsI 4 (ciI (iI 0))) (seqS (scS 5 (seqS (lsI 5 (ciI (iI 0))) (whileS lcX12_fetches_2 lbX12_fetches_2))) (retI (lvI 4))))))
theorem jX12_fetches : JS MX12_fetches 0 0 0 157 [] bX12_fetches :=
  (JS.seq (pc1 := 19) (JS.iff (l := 19) (pc1 := 17) (CJ.or_f (l := 17) (pc1 := 8) (CJ.not_t (CJ.ne0_f (tgt := 17) (pc1 := 5) (JX.call (pc1 := 2) decI_ok (JA.r (JX.al (k := 0) rfl dX12_fetches_0) (JA.i (JX.il (k := 1) rfl dX12_fetches_1) JA.nil)) aX12_isBackup (RunK.V (i := 432) (c := 12) (n := 1) cl12 rfl (CN nX12_isBackup (by decide) (by decide)) gw1710 gw1712 gs82 dX12_fetches_2) (by decide)) dX12_fetches_5 rfl)) (CJ.not_f (CJ.ne0_t (tgt := 19) (pc1 := 14) (JX.call (pc1 := 11) decI_ok (JA.i (JX.il (k := 2) rfl dX12_fetches_8) (JA.i (JX.ic (n := 0) rfl dX12_fetches_9) (JA.i (JX.ic (n := 1) rfl dX12_fetches_10) JA.nil))) aX12_is (RunK.S (i := 313) (n := 3) (CN nX12_is (by decide) (by decide)) gw1589 gw1590 dX12_fetches_11) (by decide)) dX12_fetches_14 rfl)) (Or.inl rfl)) (JS.retI (pc1 := 18) (JX.ic (n := (-1)) rfl dX12_fetches_17) dX12_fetches_18) (Or.inl rfl)) (JS.seq (pc1 := 21) (JS.is (pc1 := 20) (k := 3) (JX.ic (n := 0) rfl dX12_fetches_19) rfl (show 3 < 9 by decide) dX12_fetches_20) (JS.seq (pc1 := 24) (JS.is2 (pc1 := 22) (JX.ic (n := 0) rfl dX12_fetches_21) (show 4 < 9 by decide) dX12_fetches_22) (JS.seq (pc1 := 154) (JS.sc (JS.seq (pc1 := 27) (JS.is2 (pc1 := 25) (JX.ic (n := 0) rfl dX12_fetches_24) (show 5 < 9 by decide) dX12_fetches_25) (JS.while (l := 154) (lb := 154) (pc1 := 37) (pc2 := 151) (pc3 := 154) (CJ.lt_f (tgt := 154) (pc1 := 29) (pc2 := 34) (JX.il2 dX12_fetches_27) (JX.call (pc1 := 31) decI_ok (JA.r (JX.al (k := 0) rfl dX12_fetches_29) (JA.i (JX.il (k := 1) rfl dX12_fetches_30) JA.nil)) aX12_manyOf (RunK.V (i := 435) (c := 12) (n := 1) cl12 rfl (CN nX12_manyOf (by decide) (by decide)) gw1856 gw1858 gs114 dX12_fetches_31) (by decide)) dX12_fetches_34 rfl) (JS.forb (pc1 := 148) (JS.sc (JS.seq (pc1 := 50) (JS.is2 (pc1 := 48) (JX.call (pc1 := 45) decI_ok (JA.r (JX.al (k := 0) rfl dX12_fetches_37) (JA.i (JX.call (pc1 := 42) decI_ok (JA.r (JX.al (k := 0) rfl dX12_fetches_38) (JA.i (JX.il (k := 1) rfl dX12_fetches_39) (JA.i (JX.il2 dX12_fetches_40) JA.nil))) aX12_pieceOf (RunK.V (i := 438) (c := 12) (n := 2) cl12 rfl (CN nX12_pieceOf (by decide) (by decide)) gw1860 gw1862 gs115 dX12_fetches_42) (by decide)) JA.nil)) aX12_boxOf (RunK.V (i := 444) (c := 12) (n := 1) cl12 rfl (CN nX12_boxOf (by decide) (by decide)) gw1828 gw1830 gs108 dX12_fetches_45) (by decide)) (show 6 < 9 by decide) dX12_fetches_48) (JS.seq (pc1 := 53) (JS.is2 (pc1 := 51) (JX.ic (n := (-1)) rfl dX12_fetches_50) (show 7 < 9 by decide) dX12_fetches_51) (JS.seq (pc1 := 84) (JS.sc (JS.seq (pc1 := 56) (JS.is2 (pc1 := 54) (JX.ic (n := 0) rfl dX12_fetches_53) (show 8 < 9 by decide) dX12_fetches_54) (JS.while (l := 84) (lb := 84) (pc1 := 62) (pc2 := 81) (pc3 := 84) (CJ.lt_f (tgt := 84) (pc1 := 58) (pc2 := 59) (JX.il2 dX12_fetches_56) (JX.il (k := 3) rfl dX12_fetches_58) dX12_fetches_59 rfl) (JS.forb (pc1 := 78) (JS.iff (l := 78) (pc1 := 74) (CJ.eq_f (tgt := 78) (pc1 := 69) (pc2 := 71) (JX.iald (pc1 := 66) (pc2 := 68) (JX.getR (pc1 := 63) (c := 12) (k := 60) (i := 197) (JX.al (k := 0) rfl dX12_fetches_62) cl12 (by decide) rfl fk12_197 dX12_fetches_63) (JX.il2 dX12_fetches_66) dX12_fetches_68) (JX.il2 dX12_fetches_69) dX12_fetches_71 rfl) (JS.is2 (pc1 := 76) (JX.il2 dX12_fetches_74) (show 7 < 9 by decide) dX12_fetches_76) (Or.inl rfl)) (JS.inc (n := 1) rfl (show 8 < 9 by decide) dX12_fetches_78)) dX12_fetches_81 rfl (Or.inl rfl) (Or.inl rfl)))) (JS.seq (pc1 := 139) (JS.iff (l := 139) (pc1 := 90) (CJ.eq_f (tgt := 139) (pc1 := 86) (pc2 := 87) (JX.il2 dX12_fetches_84) (JX.ic (n := (-1)) rfl dX12_fetches_86) dX12_fetches_87 rfl) (JS.seq (pc1 := 93) (JS.inc (n := 1) rfl (show 4 < 9 by decide) dX12_fetches_90) (JS.seq (pc1 := 117) (JS.is2 (pc1 := 115) (JX.ite (l := 107) (pc1 := 103) (pc2 := 104) (pc3 := 115) (lend := 115) (CJ.lt_f (tgt := 107) (pc1 := 94) (pc2 := 100) (JX.il (k := 3) rfl dX12_fetches_93) (JX.call (pc1 := 97) decI_ok (JA.r (JX.al (k := 0) rfl dX12_fetches_94) (JA.i (JX.bp (n := 7) kb7 dX12_fetches_95) JA.nil)) aX12_by (RunK.V (i := 414) (c := 12) (n := 1) cl12 rfl (CN nX12_by (by decide) (by decide)) gw1714 gw1716 gs83 dX12_fetches_97) (by decide)) dX12_fetches_100 rfl) (JX.il (k := 3) rfl dX12_fetches_103) dX12_fetches_104 rfl (JX.call (pc1 := 112) decI_ok (JA.r (JX.al (k := 0) rfl dX12_fetches_107) (JA.i (JX.il (k := 1) rfl dX12_fetches_108) (JA.i (JX.il (k := 2) rfl dX12_fetches_109) (JA.i (JX.il2 dX12_fetches_110) JA.nil)))) aX12_cleared (RunK.V (i := 553) (c := 12) (n := 3) cl12 rfl (CN nX12_cleared (by decide) (by decide)) gw1936 gw1938 gs125 dX12_fetches_112) (by decide)) (Or.inl rfl)) (show 7 < 9 by decide) dX12_fetches_115) (JS.seq (pc1 := 130) (JS.iff (l := 130) (pc1 := 127) (CJ.lt_f (tgt := 130) (pc1 := 118) (pc2 := 124) (JX.il (k := 3) rfl dX12_fetches_117) (JX.call (pc1 := 121) decI_ok (JA.r (JX.al (k := 0) rfl dX12_fetches_118) (JA.i (JX.bp (n := 7) kb7 dX12_fetches_119) JA.nil)) aX12_by (RunK.V (i := 414) (c := 12) (n := 1) cl12 rfl (CN nX12_by (by decide) (by decide)) gw1714 gw1716 gs83 dX12_fetches_121) (by decide)) dX12_fetches_124 rfl) (JS.inc (n := 1) rfl (show 3 < 9 by decide) dX12_fetches_127) (Or.inl rfl)) (JS.ia (pc1 := 134) (pc2 := 136) (pc3 := 138) (JX.getR (pc1 := 131) (c := 12) (k := 60) (i := 197) (JX.al (k := 0) rfl dX12_fetches_130) cl12 (by decide) rfl fk12_197 dX12_fetches_131) (JX.il2 dX12_fetches_134) (JX.il2 dX12_fetches_136) dX12_fetches_138)))) (Or.inl rfl)) (JS.ia (pc1 := 143) (pc2 := 145) (pc3 := 147) (JX.getR (pc1 := 140) (c := 12) (k := 61) (i := 200) (JX.al (k := 0) rfl dX12_fetches_139) cl12 (by decide) rfl fk12_200 dX12_fetches_140) (JX.il2 dX12_fetches_143) (JX.il2 dX12_fetches_145) dX12_fetches_147)))))) (JS.inc (n := 1) rfl (show 5 < 9 by decide) dX12_fetches_148)) dX12_fetches_151 rfl (Or.inl rfl) (Or.inl rfl)))) (JS.retI (pc1 := 156) (JX.il2 dX12_fetches_154) dX12_fetches_156)))))
def mX12_fetches : MS := runM 9 (some (.int)) bX12_fetches
theorem aX12_fetches : MA yX12_fetches cX12_fetches 9 (some (.int)) 4 mX12_fetches := MA.of (plainFor_of_name (by decide)) jX12_fetches
theorem eX12_fetches (a0 : Nat) (a1 : Int32) (a2 : Int32) (h : AH) : mX12_fetches [.ref a0, .int a1, .int a2] h = (bX12_fetches [.val (.ref a0), .val (.int a1), .val (.int a2), .unset, .unset, .unset, .unset, .unset, .unset] h).bind (finM (some (.int))) := rfl
/-! PieceStoreModel.expired -/
theorem dX12_expired_0 : decode cX12_expired 0 = .ok (.iconst 0, 1) := by decide +kernel
theorem dX12_expired_1 : decode cX12_expired 1 = .ok (.istore_n 1, 1) := by decide +kernel
theorem dX12_expired_2 : decode cX12_expired 2 = .ok (.iconst 0, 1) := by decide +kernel
theorem dX12_expired_3 : decode cX12_expired 3 = .ok (.istore_n 2, 1) := by decide +kernel
theorem dX12_expired_4 : decode cX12_expired 4 = .ok (.iload_n 2, 1) := by decide +kernel
theorem dX12_expired_5 : decode cX12_expired 5 = .ok (.bipush 12, 2) := by decide +kernel
theorem dX12_expired_7 : decode cX12_expired 7 = .ok (.if_icmp .ge 67, 3) := by decide +kernel
theorem dX12_expired_10 : decode cX12_expired 10 = .ok (.aload_n 0, 1) := by decide +kernel
theorem dX12_expired_11 : decode cX12_expired 11 = .ok (.iload_n 2, 1) := by decide +kernel
theorem dX12_expired_12 : decode cX12_expired 12 = .ok (.invokevirtual 432, 3) := by decide +kernel
theorem dX12_expired_15 : decode cX12_expired 15 = .ok (.ifCond .eq 53, 3) := by decide +kernel
theorem dX12_expired_18 : decode cX12_expired 18 = .ok (.aload_n 0, 1) := by decide +kernel
theorem dX12_expired_19 : decode cX12_expired 19 = .ok (.bipush 8, 2) := by decide +kernel
theorem dX12_expired_21 : decode cX12_expired 21 = .ok (.invokevirtual 414, 3) := by decide +kernel
theorem dX12_expired_24 : decode cX12_expired 24 = .ok (.ifCond .eq 44, 3) := by decide +kernel
theorem dX12_expired_27 : decode cX12_expired 27 = .ok (.aload_n 0, 1) := by decide +kernel
theorem dX12_expired_28 : decode cX12_expired 28 = .ok (.getfield 117, 3) := by decide +kernel
theorem dX12_expired_31 : decode cX12_expired 31 = .ok (.bipush 6, 2) := by decide +kernel
theorem dX12_expired_33 : decode cX12_expired 33 = .ok (.iaload, 1) := by decide +kernel
theorem dX12_expired_34 : decode cX12_expired 34 = .ok (.aload_n 0, 1) := by decide +kernel
theorem dX12_expired_35 : decode cX12_expired 35 = .ok (.iload_n 2, 1) := by decide +kernel
theorem dX12_expired_36 : decode cX12_expired 36 = .ok (.invokevirtual 524, 3) := by decide +kernel
theorem dX12_expired_39 : decode cX12_expired 39 = .ok (.isub, 1) := by decide +kernel
theorem dX12_expired_40 : decode cX12_expired 40 = .ok (.iconst 1, 1) := by decide +kernel
theorem dX12_expired_41 : decode cX12_expired 41 = .ok (.iadd, 1) := by decide +kernel
theorem dX12_expired_42 : decode cX12_expired 42 = .ok (.aload_n 0, 1) := by decide +kernel
theorem dX12_expired_43 : decode cX12_expired 43 = .ok (.bipush 8, 2) := by decide +kernel
theorem dX12_expired_45 : decode cX12_expired 45 = .ok (.invokevirtual 414, 3) := by decide +kernel
theorem dX12_expired_48 : decode cX12_expired 48 = .ok (.if_icmp .ge 6, 3) := by decide +kernel
theorem dX12_expired_51 : decode cX12_expired 51 = .ok (.goto 17, 3) := by decide +kernel
theorem dX12_expired_54 : decode cX12_expired 54 = .ok (.aload_n 0, 1) := by decide +kernel
theorem dX12_expired_55 : decode cX12_expired 55 = .ok (.bipush 10, 2) := by decide +kernel
theorem dX12_expired_57 : decode cX12_expired 57 = .ok (.iconst 4, 1) := by decide +kernel
theorem dX12_expired_58 : decode cX12_expired 58 = .ok (.iload_n 2, 1) := by decide +kernel
theorem dX12_expired_59 : decode cX12_expired 59 = .ok (.imul, 1) := by decide +kernel
theorem dX12_expired_60 : decode cX12_expired 60 = .ok (.iadd, 1) := by decide +kernel
theorem dX12_expired_61 : decode cX12_expired 61 = .ok (.iconst 0, 1) := by decide +kernel
theorem dX12_expired_62 : decode cX12_expired 62 = .ok (.invokevirtual 450, 3) := by decide +kernel
theorem dX12_expired_65 : decode cX12_expired 65 = .ok (.iinc 1 1, 3) := by decide +kernel
theorem dX12_expired_68 : decode cX12_expired 68 = .ok (.iinc 2 1, 3) := by decide +kernel
theorem dX12_expired_71 : decode cX12_expired 71 = .ok (.goto (-67), 3) := by decide +kernel
theorem dX12_expired_74 : decode cX12_expired 74 = .ok (.aload_n 0, 1) := by decide +kernel
theorem dX12_expired_75 : decode cX12_expired 75 = .ok (.bipush 6, 2) := by decide +kernel
theorem dX12_expired_77 : decode cX12_expired 77 = .ok (.aload_n 0, 1) := by decide +kernel
theorem dX12_expired_78 : decode cX12_expired 78 = .ok (.getfield 117, 3) := by decide +kernel
theorem dX12_expired_81 : decode cX12_expired 81 = .ok (.bipush 6, 2) := by decide +kernel
theorem dX12_expired_83 : decode cX12_expired 83 = .ok (.iaload, 1) := by decide +kernel
theorem dX12_expired_84 : decode cX12_expired 84 = .ok (.iconst 1, 1) := by decide +kernel
theorem dX12_expired_85 : decode cX12_expired 85 = .ok (.iadd, 1) := by decide +kernel
theorem dX12_expired_86 : decode cX12_expired 86 = .ok (.invokevirtual 450, 3) := by decide +kernel
theorem dX12_expired_89 : decode cX12_expired 89 = .ok (.iload_n 1, 1) := by decide +kernel
theorem dX12_expired_90 : decode cX12_expired 90 = .ok (.ireturn, 1) := by decide +kernel
abbrev MX12_expired : MI := (RX12, cX12_expired, 3, 3, false)
def lcX12_expired_1 : Ex Bool := (ltI (lvI 2) (ciI (iI 12)))
def lbX12_expired_1 : St := (forB (seqS (ifS (orX (orX (notX (ne0 (calX decI (ckV 12 1) mX12_isBackup (agC va_rf (lvR 0) (agC Value.int (lvI 2) agN))))) (eq0 (calX decI (ckV 12 1) mX12_by (agC va_rf (lvR 0) (agC Value.int (ciI (iI 8)) agN))))) (ltI (addI (subI (aldI 2 (getR 12 34 (lvR 0)) (ciI (iI 6))) (calX decI (ckV 12 1) mX12_dayOf (agC va_rf (lvR 0) (agC Value.int (lvI 2) agN)))) (ciI (iI 1))) (calX decI (ckV 12 1) mX12_by (agC va_rf (lvR 0) (agC Value.int (ciI (iI 8)) agN))))) contS) (seqS (calS (ckV 12 2) mX12_puts (agC va_rf (lvR 0) (agC Value.int (addI (ciI (iI 10)) (mulI (ciI (iI 4)) (lvI 2))) (agC Value.int (ciI (iI 0)) agN)))) (incI 1 (iI 1)))) (incI 2 (iI 1)))
def bX12_expired : St := (seqS (lsI 1 (ciI (iI 0))) (seqS (scS 2 (seqS (lsI 2 (ciI (iI 0))) (whileS lcX12_expired_1 lbX12_expired_1))) (seqS (calS (ckV 12 2) mX12_puts (agC va_rf (lvR 0) (agC Value.int (ciI (iI 6)) (agC Value.int (addI (aldI 2 (getR 12 34 (lvR 0)) (ciI (iI 6))) (ciI (iI 1))) agN)))) (retI (lvI 1)))))
theorem jX12_expired : JS MX12_expired 0 0 0 91 [] bX12_expired :=
  (JS.seq (pc1 := 2) (JS.is (pc1 := 1) (k := 1) (JX.ic (n := 0) rfl dX12_expired_0) rfl (show 1 < 3 by decide) dX12_expired_1) (JS.seq (pc1 := 74) (JS.sc (JS.seq (pc1 := 4) (JS.is (pc1 := 3) (k := 2) (JX.ic (n := 0) rfl dX12_expired_2) rfl (show 2 < 3 by decide) dX12_expired_3) (JS.while (l := 74) (lb := 74) (pc1 := 10) (pc2 := 71) (pc3 := 74) (CJ.lt_f (tgt := 74) (pc1 := 5) (pc2 := 7) (JX.il (k := 2) rfl dX12_expired_4) (JX.bp (n := 12) kb12 dX12_expired_5) dX12_expired_7 rfl) (JS.forb (pc1 := 68) (JS.seq (pc1 := 54) (JS.ifc (l := 54) (pc1 := 51) (CJ.or_f (l := 68) (pc1 := 27) (CJ.or_t (pc1 := 18) (CJ.not_t (CJ.ne0_f (tgt := 68) (pc1 := 15) (JX.call (pc1 := 12) decI_ok (JA.r (JX.al (k := 0) rfl dX12_expired_10) (JA.i (JX.il (k := 2) rfl dX12_expired_11) JA.nil)) aX12_isBackup (RunK.V (i := 432) (c := 12) (n := 1) cl12 rfl (CN nX12_isBackup (by decide) (by decide)) gw1710 gw1712 gs82 dX12_expired_12) (by decide)) dX12_expired_15 rfl)) (CJ.eq0_t (tgt := 68) (pc1 := 24) (JX.call (pc1 := 21) decI_ok (JA.r (JX.al (k := 0) rfl dX12_expired_18) (JA.i (JX.bp (n := 8) kb8 dX12_expired_19) JA.nil)) aX12_by (RunK.V (i := 414) (c := 12) (n := 1) cl12 rfl (CN nX12_by (by decide) (by decide)) gw1714 gw1716 gs83 dX12_expired_21) (by decide)) dX12_expired_24 rfl)) (CJ.lt_f (tgt := 54) (pc1 := 42) (pc2 := 48) (JX.iadd (pc1 := 40) (pc2 := 41) (JX.isub (pc1 := 34) (pc2 := 39) (JX.iald (pc1 := 31) (pc2 := 33) (JX.getR (pc1 := 28) (c := 12) (k := 34) (i := 117) (JX.al (k := 0) rfl dX12_expired_27) cl12 (by decide) rfl fk12_117 dX12_expired_28) (JX.bp (n := 6) kb6 dX12_expired_31) dX12_expired_33) (JX.call (pc1 := 36) decI_ok (JA.r (JX.al (k := 0) rfl dX12_expired_34) (JA.i (JX.il (k := 2) rfl dX12_expired_35) JA.nil)) aX12_dayOf (RunK.V (i := 524) (c := 12) (n := 1) cl12 rfl (CN nX12_dayOf (by decide) (by decide)) gw1872 gw1874 gs117 dX12_expired_36) (by decide)) dX12_expired_39) (JX.ic (n := 1) rfl dX12_expired_40) dX12_expired_41) (JX.call (pc1 := 45) decI_ok (JA.r (JX.al (k := 0) rfl dX12_expired_42) (JA.i (JX.bp (n := 8) kb8 dX12_expired_43) JA.nil)) aX12_by (RunK.V (i := 414) (c := 12) (n := 1) cl12 rfl (CN nX12_by (by decide) (by decide)) gw1714 gw1716 gs83 dX12_expired_45) (by decide)) dX12_expired_48 rfl) (Or.inr (List.mem_singleton.mpr rfl))) dX12_expired_51 rfl (Or.inl rfl)) (JS.seq (pc1 := 65) (JS.call (pc1 := 62) (JA.r (JX.al (k := 0) rfl dX12_expired_54) (JA.i (JX.iadd (pc1 := 57) (pc2 := 60) (JX.bp (n := 10) kb10 dX12_expired_55) (JX.imul (pc1 := 58) (pc2 := 59) (JX.ic (n := 4) rfl dX12_expired_57) (JX.il (k := 2) rfl dX12_expired_58) dX12_expired_59) dX12_expired_60) (JA.i (JX.ic (n := 0) rfl dX12_expired_61) JA.nil))) aX12_puts (RunK.V (i := 450) (c := 12) (n := 2) cl12 rfl (CN nX12_puts (by decide) (by decide)) gw1816 gw1818 gs105 dX12_expired_62)) (JS.inc (n := 1) rfl (show 1 < 3 by decide) dX12_expired_65))) (JS.inc (n := 1) rfl (show 2 < 3 by decide) dX12_expired_68)) dX12_expired_71 rfl (Or.inl rfl) (Or.inl rfl)))) (JS.seq (pc1 := 89) (JS.call (pc1 := 86) (JA.r (JX.al (k := 0) rfl dX12_expired_74) (JA.i (JX.bp (n := 6) kb6 dX12_expired_75) (JA.i (JX.iadd (pc1 := 84) (pc2 := 85) (JX.iald (pc1 := 81) (pc2 := 83) (JX.getR (pc1 := 78) (c := 12) (k := 34) (i := 117) (JX.al (k := 0) rfl dX12_expired_77) cl12 (by decide) rfl fk12_117 dX12_expired_78) (JX.bp (n := 6) kb6 dX12_expired_81) dX12_expired_83) (JX.ic (n := 1) rfl dX12_expired_84) dX12_expired_85) JA.nil))) aX12_puts (RunK.V (i := 450) (c := 12) (n := 2) cl12 rfl (CN nX12_puts (by decide) (by decide)) gw1816 gw1818 gs105 dX12_expired_86)) (JS.retI (pc1 := 90) (JX.il (k := 1) rfl dX12_expired_89) dX12_expired_90))))
def mX12_expired : MS := runM 3 (some (.int)) bX12_expired
theorem aX12_expired : MA yX12_expired cX12_expired 3 (some (.int)) 3 mX12_expired := MA.of (plainFor_of_name (by decide)) jX12_expired
theorem eX12_expired (a0 : Nat) (h : AH) : mX12_expired [.ref a0] h = (bX12_expired [.val (.ref a0), .unset, .unset] h).bind (finM (some (.int))) := rfl
/-! PieceStoreModel.fouls -/
theorem dX12_fouls_0 : decode cX12_fouls 0 = .ok (.aload_n 0, 1) := by decide +kernel
theorem dX12_fouls_1 : decode cX12_fouls 1 = .ok (.invokevirtual 512, 3) := by decide +kernel
theorem dX12_fouls_4 : decode cX12_fouls 4 = .ok (.iconst 0, 1) := by decide +kernel
theorem dX12_fouls_5 : decode cX12_fouls 5 = .ok (.istore_n 1, 1) := by decide +kernel
theorem dX12_fouls_6 : decode cX12_fouls 6 = .ok (.iconst 0, 1) := by decide +kernel
theorem dX12_fouls_7 : decode cX12_fouls 7 = .ok (.istore_n 2, 1) := by decide +kernel
theorem dX12_fouls_8 : decode cX12_fouls 8 = .ok (.iload_n 2, 1) := by decide +kernel
theorem dX12_fouls_9 : decode cX12_fouls 9 = .ok (.aload_n 0, 1) := by decide +kernel
theorem dX12_fouls_10 : decode cX12_fouls 10 = .ok (.getfield 117, 3) := by decide +kernel
theorem dX12_fouls_13 : decode cX12_fouls 13 = .ok (.iconst 5, 1) := by decide +kernel
theorem dX12_fouls_14 : decode cX12_fouls 14 = .ok (.iaload, 1) := by decide +kernel
theorem dX12_fouls_15 : decode cX12_fouls 15 = .ok (.if_icmp .ge 45, 3) := by decide +kernel
theorem dX12_fouls_18 : decode cX12_fouls 18 = .ok (.aload_n 0, 1) := by decide +kernel
theorem dX12_fouls_19 : decode cX12_fouls 19 = .ok (.getfield 203, 3) := by decide +kernel
theorem dX12_fouls_22 : decode cX12_fouls 22 = .ok (.iload_n 2, 1) := by decide +kernel
theorem dX12_fouls_23 : decode cX12_fouls 23 = .ok (.aload_n 0, 1) := by decide +kernel
theorem dX12_fouls_24 : decode cX12_fouls 24 = .ok (.iload_n 2, 1) := by decide +kernel
theorem dX12_fouls_25 : decode cX12_fouls 25 = .ok (.invokevirtual 533, 3) := by decide +kernel
theorem dX12_fouls_28 : decode cX12_fouls 28 = .ok (.ifCond .ne 15, 3) := by decide +kernel
theorem dX12_fouls_31 : decode cX12_fouls 31 = .ok (.aload_n 0, 1) := by decide +kernel
theorem dX12_fouls_32 : decode cX12_fouls 32 = .ok (.iload_n 2, 1) := by decide +kernel
theorem dX12_fouls_33 : decode cX12_fouls 33 = .ok (.invokevirtual 536, 3) := by decide +kernel
theorem dX12_fouls_36 : decode cX12_fouls 36 = .ok (.ifCond .eq 7, 3) := by decide +kernel
theorem dX12_fouls_39 : decode cX12_fouls 39 = .ok (.iconst 1, 1) := by decide +kernel
theorem dX12_fouls_40 : decode cX12_fouls 40 = .ok (.goto 4, 3) := by decide +kernel
theorem dX12_fouls_43 : decode cX12_fouls 43 = .ok (.iconst 0, 1) := by decide +kernel
theorem dX12_fouls_44 : decode cX12_fouls 44 = .ok (.iastore, 1) := by decide +kernel
theorem dX12_fouls_45 : decode cX12_fouls 45 = .ok (.iload_n 1, 1) := by decide +kernel
theorem dX12_fouls_46 : decode cX12_fouls 46 = .ok (.aload_n 0, 1) := by decide +kernel
theorem dX12_fouls_47 : decode cX12_fouls 47 = .ok (.getfield 203, 3) := by decide +kernel
theorem dX12_fouls_50 : decode cX12_fouls 50 = .ok (.iload_n 2, 1) := by decide +kernel
theorem dX12_fouls_51 : decode cX12_fouls 51 = .ok (.iaload, 1) := by decide +kernel
theorem dX12_fouls_52 : decode cX12_fouls 52 = .ok (.iadd, 1) := by decide +kernel
theorem dX12_fouls_53 : decode cX12_fouls 53 = .ok (.istore_n 1, 1) := by decide +kernel
theorem dX12_fouls_54 : decode cX12_fouls 54 = .ok (.iinc 2 1, 3) := by decide +kernel
theorem dX12_fouls_57 : decode cX12_fouls 57 = .ok (.goto (-49), 3) := by decide +kernel
theorem dX12_fouls_60 : decode cX12_fouls 60 = .ok (.iload_n 1, 1) := by decide +kernel
theorem dX12_fouls_61 : decode cX12_fouls 61 = .ok (.ireturn, 1) := by decide +kernel
abbrev MX12_fouls : MI := (RX12, cX12_fouls, 3, 5, false)
def lcX12_fouls_1 : Ex Bool := (ltI (lvI 2) (aldI 2 (getR 12 34 (lvR 0)) (ciI (iI 5))))
def lbX12_fouls_1 : St := (forB (seqS (astI (getR 12 62 (lvR 0)) (lvI 2) (iteX (andX (notX (ne0 (calX decI (ckV 12 1) mX12_isBroken (agC va_rf (lvR 0) (agC Value.int (lvI 2) agN))))) (ne0 (calX decI (ckV 12 1) mX12_isFoul (agC va_rf (lvR 0) (agC Value.int (lvI 2) agN))))) (ciI (iI 1)) (ciI (iI 0)))) (lsI 1 (addI (lvI 1) (aldI 2 (getR 12 62 (lvR 0)) (lvI 2))))) (incI 2 (iI 1)))
def bX12_fouls : St := (seqS (calS (ckV 12 0) mX12_enlivens (agC va_rf (lvR 0) agN)) (seqS (lsI 1 (ciI (iI 0))) (seqS (scS 2 (seqS (lsI 2 (ciI (iI 0))) (whileS lcX12_fouls_1 lbX12_fouls_1))) (retI (lvI 1)))))
theorem jX12_fouls : JS MX12_fouls 0 0 0 62 [] bX12_fouls :=
  (JS.seq (pc1 := 4) (JS.call (pc1 := 1) (JA.r (JX.al (k := 0) rfl dX12_fouls_0) JA.nil) aX12_enlivens (RunK.V (i := 512) (c := 12) (n := 0) cl12 rfl (CN nX12_enlivens (by decide) (by decide)) gw1852 gw1854 gs113 dX12_fouls_1)) (JS.seq (pc1 := 6) (JS.is (pc1 := 5) (k := 1) (JX.ic (n := 0) rfl dX12_fouls_4) rfl (show 1 < 3 by decide) dX12_fouls_5) (JS.seq (pc1 := 60) (JS.sc (JS.seq (pc1 := 8) (JS.is (pc1 := 7) (k := 2) (JX.ic (n := 0) rfl dX12_fouls_6) rfl (show 2 < 3 by decide) dX12_fouls_7) (JS.while (l := 60) (lb := 60) (pc1 := 18) (pc2 := 57) (pc3 := 60) (CJ.lt_f (tgt := 60) (pc1 := 9) (pc2 := 15) (JX.il (k := 2) rfl dX12_fouls_8) (JX.iald (pc1 := 13) (pc2 := 14) (JX.getR (pc1 := 10) (c := 12) (k := 34) (i := 117) (JX.al (k := 0) rfl dX12_fouls_9) cl12 (by decide) rfl fk12_117 dX12_fouls_10) (JX.ic (n := 5) rfl dX12_fouls_13) dX12_fouls_14) dX12_fouls_15 rfl) (JS.forb (pc1 := 54) (JS.seq (pc1 := 45) (JS.ia (pc1 := 22) (pc2 := 23) (pc3 := 44) (JX.getR (pc1 := 19) (c := 12) (k := 62) (i := 203) (JX.al (k := 0) rfl dX12_fouls_18) cl12 (by decide) rfl fk12_203 dX12_fouls_19) (JX.il (k := 2) rfl dX12_fouls_22) (JX.ite (l := 43) (pc1 := 39) (pc2 := 40) (pc3 := 44) (lend := 44) (CJ.and_f (pc1 := 31) (CJ.not_f (CJ.ne0_t (tgt := 43) (pc1 := 28) (JX.call (pc1 := 25) decI_ok (JA.r (JX.al (k := 0) rfl dX12_fouls_23) (JA.i (JX.il (k := 2) rfl dX12_fouls_24) JA.nil)) aX12_isBroken (RunK.V (i := 533) (c := 12) (n := 1) cl12 rfl (CN nX12_isBroken (by decide) (by decide)) gw1892 gw1894 gs120 dX12_fouls_25) (by decide)) dX12_fouls_28 rfl)) (CJ.ne0_f (tgt := 43) (pc1 := 36) (JX.call (pc1 := 33) decI_ok (JA.r (JX.al (k := 0) rfl dX12_fouls_31) (JA.i (JX.il (k := 2) rfl dX12_fouls_32) JA.nil)) aX12_isFoul (RunK.V (i := 536) (c := 12) (n := 1) cl12 rfl (CN nX12_isFoul (by decide) (by decide)) gw1896 gw1898 gs121 dX12_fouls_33) (by decide)) dX12_fouls_36 rfl)) (JX.ic (n := 1) rfl dX12_fouls_39) dX12_fouls_40 rfl (JX.ic (n := 0) rfl dX12_fouls_43) (Or.inl rfl)) dX12_fouls_44) (JS.is (pc1 := 53) (k := 1) (JX.iadd (pc1 := 46) (pc2 := 52) (JX.il (k := 1) rfl dX12_fouls_45) (JX.iald (pc1 := 50) (pc2 := 51) (JX.getR (pc1 := 47) (c := 12) (k := 62) (i := 203) (JX.al (k := 0) rfl dX12_fouls_46) cl12 (by decide) rfl fk12_203 dX12_fouls_47) (JX.il (k := 2) rfl dX12_fouls_50) dX12_fouls_51) dX12_fouls_52) rfl (show 1 < 3 by decide) dX12_fouls_53)) (JS.inc (n := 1) rfl (show 2 < 3 by decide) dX12_fouls_54)) dX12_fouls_57 rfl (Or.inl rfl) (Or.inl rfl)))) (JS.retI (pc1 := 61) (JX.il (k := 1) rfl dX12_fouls_60) dX12_fouls_61))))
def mX12_fouls : MS := runM 3 (some (.int)) bX12_fouls
theorem aX12_fouls : MA yX12_fouls cX12_fouls 3 (some (.int)) 5 mX12_fouls := MA.of (plainFor_of_name (by decide)) jX12_fouls
theorem eX12_fouls (a0 : Nat) (h : AH) : mX12_fouls [.ref a0] h = (bX12_fouls [.val (.ref a0), .unset, .unset] h).bind (finM (some (.int))) := rfl
/-! PieceStoreModel.collects -/
theorem dX12_collects_0 : decode cX12_collects 0 = .ok (.iconst 0, 1) := by decide +kernel
theorem dX12_collects_1 : decode cX12_collects 1 = .ok (.istore_n 1, 1) := by decide +kernel
theorem dX12_collects_2 : decode cX12_collects 2 = .ok (.iconst 0, 1) := by decide +kernel
theorem dX12_collects_3 : decode cX12_collects 3 = .ok (.istore_n 2, 1) := by decide +kernel
theorem dX12_collects_4 : decode cX12_collects 4 = .ok (.iload_n 2, 1) := by decide +kernel
theorem dX12_collects_5 : decode cX12_collects 5 = .ok (.aload_n 0, 1) := by decide +kernel
theorem dX12_collects_6 : decode cX12_collects 6 = .ok (.getfield 117, 3) := by decide +kernel
theorem dX12_collects_9 : decode cX12_collects 9 = .ok (.iconst 5, 1) := by decide +kernel
theorem dX12_collects_10 : decode cX12_collects 10 = .ok (.iaload, 1) := by decide +kernel
theorem dX12_collects_11 : decode cX12_collects 11 = .ok (.if_icmp .ge 121, 3) := by decide +kernel
theorem dX12_collects_14 : decode cX12_collects 14 = .ok (.aload_n 0, 1) := by decide +kernel
theorem dX12_collects_15 : decode cX12_collects 15 = .ok (.getfield 203, 3) := by decide +kernel
theorem dX12_collects_18 : decode cX12_collects 18 = .ok (.iload_n 2, 1) := by decide +kernel
theorem dX12_collects_19 : decode cX12_collects 19 = .ok (.iaload, 1) := by decide +kernel
theorem dX12_collects_20 : decode cX12_collects 20 = .ok (.ifCond .ne 6, 3) := by decide +kernel
theorem dX12_collects_23 : decode cX12_collects 23 = .ok (.goto 103, 3) := by decide +kernel
theorem dX12_collects_26 : decode cX12_collects 26 = .ok (.aload_n 0, 1) := by decide +kernel
theorem dX12_collects_27 : decode cX12_collects 27 = .ok (.iload_n 2, 1) := by decide +kernel
theorem dX12_collects_28 : decode cX12_collects 28 = .ok (.invokevirtual 453, 3) := by decide +kernel
theorem dX12_collects_31 : decode cX12_collects 31 = .ok (.istore_n 3, 1) := by decide +kernel
theorem dX12_collects_32 : decode cX12_collects 32 = .ok (.iconst 0, 1) := by decide +kernel
theorem dX12_collects_33 : decode cX12_collects 33 = .ok (.istore 4, 2) := by decide +kernel
theorem dX12_collects_35 : decode cX12_collects 35 = .ok (.iload 4, 2) := by decide +kernel
theorem dX12_collects_37 : decode cX12_collects 37 = .ok (.iload_n 3, 1) := by decide +kernel
theorem dX12_collects_38 : decode cX12_collects 38 = .ok (.if_icmp .ge 88, 3) := by decide +kernel
theorem dX12_collects_41 : decode cX12_collects 41 = .ok (.iconst 0, 1) := by decide +kernel
theorem dX12_collects_42 : decode cX12_collects 42 = .ok (.istore 5, 2) := by decide +kernel
theorem dX12_collects_44 : decode cX12_collects 44 = .ok (.iload 5, 2) := by decide +kernel
theorem dX12_collects_46 : decode cX12_collects 46 = .ok (.aload_n 0, 1) := by decide +kernel
theorem dX12_collects_47 : decode cX12_collects 47 = .ok (.getfield 117, 3) := by decide +kernel
theorem dX12_collects_50 : decode cX12_collects 50 = .ok (.iconst 1, 1) := by decide +kernel
theorem dX12_collects_51 : decode cX12_collects 51 = .ok (.iaload, 1) := by decide +kernel
theorem dX12_collects_52 : decode cX12_collects 52 = .ok (.if_icmp .ge 68, 3) := by decide +kernel
theorem dX12_collects_55 : decode cX12_collects 55 = .ok (.aload_n 0, 1) := by decide +kernel
theorem dX12_collects_56 : decode cX12_collects 56 = .ok (.iload 5, 2) := by decide +kernel
theorem dX12_collects_58 : decode cX12_collects 58 = .ok (.invokevirtual 441, 3) := by decide +kernel
theorem dX12_collects_61 : decode cX12_collects 61 = .ok (.ifCond .eq 53, 3) := by decide +kernel
theorem dX12_collects_64 : decode cX12_collects 64 = .ok (.aload_n 0, 1) := by decide +kernel
theorem dX12_collects_65 : decode cX12_collects 65 = .ok (.iload 5, 2) := by decide +kernel
theorem dX12_collects_67 : decode cX12_collects 67 = .ok (.invokevirtual 444, 3) := by decide +kernel
theorem dX12_collects_70 : decode cX12_collects 70 = .ok (.iload_n 2, 1) := by decide +kernel
theorem dX12_collects_71 : decode cX12_collects 71 = .ok (.if_icmp .ne 43, 3) := by decide +kernel
theorem dX12_collects_74 : decode cX12_collects 74 = .ok (.aload_n 0, 1) := by decide +kernel
theorem dX12_collects_75 : decode cX12_collects 75 = .ok (.getfield 117, 3) := by decide +kernel
theorem dX12_collects_78 : decode cX12_collects 78 = .ok (.sipush 11098, 3) := by decide +kernel
theorem dX12_collects_81 : decode cX12_collects 81 = .ok (.iload 5, 2) := by decide +kernel
theorem dX12_collects_83 : decode cX12_collects 83 = .ok (.iadd, 1) := by decide +kernel
theorem dX12_collects_84 : decode cX12_collects 84 = .ok (.iaload, 1) := by decide +kernel
theorem dX12_collects_85 : decode cX12_collects 85 = .ok (.iload 4, 2) := by decide +kernel
theorem dX12_collects_87 : decode cX12_collects 87 = .ok (.if_icmp .ne 27, 3) := by decide +kernel
theorem dX12_collects_90 : decode cX12_collects 90 = .ok (.aload_n 0, 1) := by decide +kernel
theorem dX12_collects_91 : decode cX12_collects 91 = .ok (.getfield 179, 3) := by decide +kernel
theorem dX12_collects_94 : decode cX12_collects 94 = .ok (.iload 5, 2) := by decide +kernel
theorem dX12_collects_96 : decode cX12_collects 96 = .ok (.iaload, 1) := by decide +kernel
theorem dX12_collects_97 : decode cX12_collects 97 = .ok (.ifCond .ne 6, 3) := by decide +kernel
theorem dX12_collects_100 : decode cX12_collects 100 = .ok (.goto 14, 3) := by decide +kernel
theorem dX12_collects_103 : decode cX12_collects 103 = .ok (.aload_n 0, 1) := by decide +kernel
theorem dX12_collects_104 : decode cX12_collects 104 = .ok (.getfield 209, 3) := by decide +kernel
theorem dX12_collects_107 : decode cX12_collects 107 = .ok (.iload_n 1, 1) := by decide +kernel
theorem dX12_collects_108 : decode cX12_collects 108 = .ok (.iload 5, 2) := by decide +kernel
theorem dX12_collects_110 : decode cX12_collects 110 = .ok (.iastore, 1) := by decide +kernel
theorem dX12_collects_111 : decode cX12_collects 111 = .ok (.iinc 1 1, 3) := by decide +kernel
theorem dX12_collects_114 : decode cX12_collects 114 = .ok (.iinc 5 1, 3) := by decide +kernel
theorem dX12_collects_117 : decode cX12_collects 117 = .ok (.goto (-73), 3) := by decide +kernel
theorem dX12_collects_120 : decode cX12_collects 120 = .ok (.iinc 4 1, 3) := by decide +kernel
theorem dX12_collects_123 : decode cX12_collects 123 = .ok (.goto (-88), 3) := by decide +kernel
theorem dX12_collects_126 : decode cX12_collects 126 = .ok (.iinc 2 1, 3) := by decide +kernel
theorem dX12_collects_129 : decode cX12_collects 129 = .ok (.goto (-125), 3) := by decide +kernel
theorem dX12_collects_132 : decode cX12_collects 132 = .ok (.iload_n 1, 1) := by decide +kernel
theorem dX12_collects_133 : decode cX12_collects 133 = .ok (.ireturn, 1) := by decide +kernel
abbrev MX12_collects : MI := (RX12, cX12_collects, 6, 3, false)
def lcX12_collects_1 : Ex Bool := (ltI (lvI 5) (aldI 2 (getR 12 34 (lvR 0)) (ciI (iI 1))))
def lbX12_collects_1 : St := (forB (seqS (ifS (orX (orX (orX (notX (ne0 (calX decI (ckV 12 1) mX12_isThere (agC va_rf (lvR 0) (agC Value.int (lvI 5) agN))))) (neI (calX decI (ckV 12 1) mX12_boxOf (agC va_rf (lvR 0) (agC Value.int (lvI 5) agN))) (lvI 2))) (neI (aldI 2 (getR 12 34 (lvR 0)) (addI (ciI (iI 11098)) (lvI 5))) (lvI 4))) (eq0 (aldI 2 (getR 12 54 (lvR 0)) (lvI 5)))) contS) (seqS (astI (getR 12 64 (lvR 0)) (lvI 1) (lvI 5)) (incI 1 (iI 1)))) (incI 5 (iI 1)))
def lcX12_collects_2 : Ex Bool := (ltI (lvI 4) (lvI 3))
def lbX12_collects_2 : St := (forB (scS 5 (seqS (lsI 5 (ciI (iI 0))) (whileS lcX12_collects_1 lbX12_collects_1))) (incI 4 (iI 1)))
def lcX12_collects_3 : Ex Bool := (ltI (lvI 2) (aldI 2 (getR 12 34 (lvR 0)) (ciI (iI 5))))
def lbX12_collects_3 : St := (forB (scS 3 (seqS (ifS (eq0 (aldI 2 (getR 12 62 (lvR 0)) (lvI 2))) contS) (seqS (lsI 3 (calX decI (ckV 12 1) mX12_piecesIn (agC va_rf (lvR 0) (agC Value.int (lvI 2) agN)))) (scS 4 (seqS (lsI 4 (ciI (iI 0))) (whileS lcX12_collects_2 lbX12_collects_2)))))) (incI 2 (iI 1)))
def bX12_collects : St := (seqS (lsI 1 (ciI (iI 0))) (seqS (scS 2 (seqS (lsI 2 (ciI (iI 0))) (whileS lcX12_collects_3 lbX12_collects_3))) (retI (lvI 1))))
theorem jX12_collects : JS MX12_collects 0 0 0 134 [] bX12_collects :=
  (JS.seq (pc1 := 2) (JS.is (pc1 := 1) (k := 1) (JX.ic (n := 0) rfl dX12_collects_0) rfl (show 1 < 6 by decide) dX12_collects_1) (JS.seq (pc1 := 132) (JS.sc (JS.seq (pc1 := 4) (JS.is (pc1 := 3) (k := 2) (JX.ic (n := 0) rfl dX12_collects_2) rfl (show 2 < 6 by decide) dX12_collects_3) (JS.while (l := 132) (lb := 132) (pc1 := 14) (pc2 := 129) (pc3 := 132) (CJ.lt_f (tgt := 132) (pc1 := 5) (pc2 := 11) (JX.il (k := 2) rfl dX12_collects_4) (JX.iald (pc1 := 9) (pc2 := 10) (JX.getR (pc1 := 6) (c := 12) (k := 34) (i := 117) (JX.al (k := 0) rfl dX12_collects_5) cl12 (by decide) rfl fk12_117 dX12_collects_6) (JX.ic (n := 5) rfl dX12_collects_9) dX12_collects_10) dX12_collects_11 rfl) (JS.forb (pc1 := 126) (JS.sc (JS.seq (pc1 := 26) (JS.ifc (l := 26) (pc1 := 23) (CJ.eq0_f (tgt := 26) (pc1 := 20) (JX.iald (pc1 := 18) (pc2 := 19) (JX.getR (pc1 := 15) (c := 12) (k := 62) (i := 203) (JX.al (k := 0) rfl dX12_collects_14) cl12 (by decide) rfl fk12_203 dX12_collects_15) (JX.il (k := 2) rfl dX12_collects_18) dX12_collects_19) dX12_collects_20 rfl) dX12_collects_23 rfl (Or.inl rfl)) (JS.seq (pc1 := 32) (JS.is (pc1 := 31) (k := 3) (JX.call (pc1 := 28) decI_ok (JA.r (JX.al (k := 0) rfl dX12_collects_26) (JA.i (JX.il (k := 2) rfl dX12_collects_27) JA.nil)) aX12_piecesIn (RunK.V (i := 453) (c := 12) (n := 1) cl12 rfl (CN nX12_piecesIn (by decide) (by decide)) gw1832 gw1834 gs109 dX12_collects_28) (by decide)) rfl (show 3 < 6 by decide) dX12_collects_31) (JS.sc (JS.seq (pc1 := 35) (JS.is2 (pc1 := 33) (JX.ic (n := 0) rfl dX12_collects_32) (show 4 < 6 by decide) dX12_collects_33) (JS.while (l := 126) (lb := 126) (pc1 := 41) (pc2 := 123) (pc3 := 126) (CJ.lt_f (tgt := 126) (pc1 := 37) (pc2 := 38) (JX.il2 dX12_collects_35) (JX.il (k := 3) rfl dX12_collects_37) dX12_collects_38 rfl) (JS.forb (pc1 := 120) (JS.sc (JS.seq (pc1 := 44) (JS.is2 (pc1 := 42) (JX.ic (n := 0) rfl dX12_collects_41) (show 5 < 6 by decide) dX12_collects_42) (JS.while (l := 120) (lb := 120) (pc1 := 55) (pc2 := 117) (pc3 := 120) (CJ.lt_f (tgt := 120) (pc1 := 46) (pc2 := 52) (JX.il2 dX12_collects_44) (JX.iald (pc1 := 50) (pc2 := 51) (JX.getR (pc1 := 47) (c := 12) (k := 34) (i := 117) (JX.al (k := 0) rfl dX12_collects_46) cl12 (by decide) rfl fk12_117 dX12_collects_47) (JX.ic (n := 1) rfl dX12_collects_50) dX12_collects_51) dX12_collects_52 rfl) (JS.forb (pc1 := 114) (JS.seq (pc1 := 103) (JS.ifc (l := 103) (pc1 := 100) (CJ.or_f (l := 114) (pc1 := 90) (CJ.or_t (pc1 := 74) (CJ.or_t (pc1 := 64) (CJ.not_t (CJ.ne0_f (tgt := 114) (pc1 := 61) (JX.call (pc1 := 58) decI_ok (JA.r (JX.al (k := 0) rfl dX12_collects_55) (JA.i (JX.il2 dX12_collects_56) JA.nil)) aX12_isThere (RunK.V (i := 441) (c := 12) (n := 1) cl12 rfl (CN nX12_isThere (by decide) (by decide)) gw1753 gw1755 gs90 dX12_collects_58) (by decide)) dX12_collects_61 rfl)) (CJ.ne_t (tgt := 114) (pc1 := 70) (pc2 := 71) (JX.call (pc1 := 67) decI_ok (JA.r (JX.al (k := 0) rfl dX12_collects_64) (JA.i (JX.il2 dX12_collects_65) JA.nil)) aX12_boxOf (RunK.V (i := 444) (c := 12) (n := 1) cl12 rfl (CN nX12_boxOf (by decide) (by decide)) gw1828 gw1830 gs108 dX12_collects_67) (by decide)) (JX.il (k := 2) rfl dX12_collects_70) dX12_collects_71 rfl)) (CJ.ne_t (tgt := 114) (pc1 := 85) (pc2 := 87) (JX.iald (pc1 := 78) (pc2 := 84) (JX.getR (pc1 := 75) (c := 12) (k := 34) (i := 117) (JX.al (k := 0) rfl dX12_collects_74) cl12 (by decide) rfl fk12_117 dX12_collects_75) (JX.iadd (pc1 := 81) (pc2 := 83) (JX.sp (n := 11098) ks11098 dX12_collects_78) (JX.il2 dX12_collects_81) dX12_collects_83) dX12_collects_84) (JX.il2 dX12_collects_85) dX12_collects_87 rfl)) (CJ.eq0_f (tgt := 103) (pc1 := 97) (JX.iald (pc1 := 94) (pc2 := 96) (JX.getR (pc1 := 91) (c := 12) (k := 54) (i := 179) (JX.al (k := 0) rfl dX12_collects_90) cl12 (by decide) rfl fk12_179 dX12_collects_91) (JX.il2 dX12_collects_94) dX12_collects_96) dX12_collects_97 rfl) (Or.inr (List.mem_singleton.mpr rfl))) dX12_collects_100 rfl (Or.inl rfl)) (JS.seq (pc1 := 111) (JS.ia (pc1 := 107) (pc2 := 108) (pc3 := 110) (JX.getR (pc1 := 104) (c := 12) (k := 64) (i := 209) (JX.al (k := 0) rfl dX12_collects_103) cl12 (by decide) rfl fk12_209 dX12_collects_104) (JX.il (k := 1) rfl dX12_collects_107) (JX.il2 dX12_collects_108) dX12_collects_110) (JS.inc (n := 1) rfl (show 1 < 6 by decide) dX12_collects_111))) (JS.inc (n := 1) rfl (show 5 < 6 by decide) dX12_collects_114)) dX12_collects_117 rfl (Or.inl rfl) (Or.inl rfl)))) (JS.inc (n := 1) rfl (show 4 < 6 by decide) dX12_collects_120)) dX12_collects_123 rfl (Or.inl rfl) (Or.inl rfl))))))) (JS.inc (n := 1) rfl (show 2 < 6 by decide) dX12_collects_126)) dX12_collects_129 rfl (Or.inl rfl) (Or.inl rfl)))) (JS.retI (pc1 := 133) (JX.il (k := 1) rfl dX12_collects_132) dX12_collects_133)))
def mX12_collects : MS := runM 6 (some (.int)) bX12_collects
theorem aX12_collects : MA yX12_collects cX12_collects 6 (some (.int)) 3 mX12_collects := MA.of (plainFor_of_name (by decide)) jX12_collects
theorem eX12_collects (a0 : Nat) (h : AH) : mX12_collects [.ref a0] h = (bX12_collects [.val (.ref a0), .unset, .unset, .unset, .unset, .unset] h).bind (finM (some (.int))) := rfl
/-! PieceStoreModel.cleans -/
theorem dX12_cleans_0 : decode cX12_cleans 0 = .ok (.aload_n 0, 1) := by decide +kernel
theorem dX12_cleans_1 : decode cX12_cleans 1 = .ok (.invokevirtual 556, 3) := by decide +kernel
theorem dX12_cleans_4 : decode cX12_cleans 4 = .ok (.istore_n 1, 1) := by decide +kernel
theorem dX12_cleans_5 : decode cX12_cleans 5 = .ok (.iconst 0, 1) := by decide +kernel
theorem dX12_cleans_6 : decode cX12_cleans 6 = .ok (.istore_n 2, 1) := by decide +kernel
theorem dX12_cleans_7 : decode cX12_cleans 7 = .ok (.iconst 0, 1) := by decide +kernel
theorem dX12_cleans_8 : decode cX12_cleans 8 = .ok (.istore_n 3, 1) := by decide +kernel
theorem dX12_cleans_9 : decode cX12_cleans 9 = .ok (.iload_n 3, 1) := by decide +kernel
theorem dX12_cleans_10 : decode cX12_cleans 10 = .ok (.aload_n 0, 1) := by decide +kernel
theorem dX12_cleans_11 : decode cX12_cleans 11 = .ok (.getfield 117, 3) := by decide +kernel
theorem dX12_cleans_14 : decode cX12_cleans 14 = .ok (.iconst 5, 1) := by decide +kernel
theorem dX12_cleans_15 : decode cX12_cleans 15 = .ok (.iaload, 1) := by decide +kernel
theorem dX12_cleans_16 : decode cX12_cleans 16 = .ok (.if_icmp .ge 68, 3) := by decide +kernel
theorem dX12_cleans_19 : decode cX12_cleans 19 = .ok (.aload_n 0, 1) := by decide +kernel
theorem dX12_cleans_20 : decode cX12_cleans 20 = .ok (.getfield 206, 3) := by decide +kernel
theorem dX12_cleans_23 : decode cX12_cleans 23 = .ok (.iload_n 3, 1) := by decide +kernel
theorem dX12_cleans_24 : decode cX12_cleans 24 = .ok (.iload_n 2, 1) := by decide +kernel
theorem dX12_cleans_25 : decode cX12_cleans 25 = .ok (.iastore, 1) := by decide +kernel
theorem dX12_cleans_26 : decode cX12_cleans 26 = .ok (.aload_n 0, 1) := by decide +kernel
theorem dX12_cleans_27 : decode cX12_cleans 27 = .ok (.getfield 203, 3) := by decide +kernel
theorem dX12_cleans_30 : decode cX12_cleans 30 = .ok (.iload_n 3, 1) := by decide +kernel
theorem dX12_cleans_31 : decode cX12_cleans 31 = .ok (.iaload, 1) := by decide +kernel
theorem dX12_cleans_32 : decode cX12_cleans 32 = .ok (.iconst 1, 1) := by decide +kernel
theorem dX12_cleans_33 : decode cX12_cleans 33 = .ok (.if_icmp .ne 6, 3) := by decide +kernel
theorem dX12_cleans_36 : decode cX12_cleans 36 = .ok (.goto 42, 3) := by decide +kernel
theorem dX12_cleans_39 : decode cX12_cleans 39 = .ok (.aload_n 0, 1) := by decide +kernel
theorem dX12_cleans_40 : decode cX12_cleans 40 = .ok (.bipush 58, 2) := by decide +kernel
theorem dX12_cleans_42 : decode cX12_cleans 42 = .ok (.iload_n 2, 1) := by decide +kernel
theorem dX12_cleans_43 : decode cX12_cleans 43 = .ok (.iadd, 1) := by decide +kernel
theorem dX12_cleans_44 : decode cX12_cleans 44 = .ok (.aload_n 0, 1) := by decide +kernel
theorem dX12_cleans_45 : decode cX12_cleans 45 = .ok (.getfield 117, 3) := by decide +kernel
theorem dX12_cleans_48 : decode cX12_cleans 48 = .ok (.bipush 58, 2) := by decide +kernel
theorem dX12_cleans_50 : decode cX12_cleans 50 = .ok (.iload_n 3, 1) := by decide +kernel
theorem dX12_cleans_51 : decode cX12_cleans 51 = .ok (.iadd, 1) := by decide +kernel
theorem dX12_cleans_52 : decode cX12_cleans 52 = .ok (.iaload, 1) := by decide +kernel
theorem dX12_cleans_53 : decode cX12_cleans 53 = .ok (.invokevirtual 450, 3) := by decide +kernel
theorem dX12_cleans_56 : decode cX12_cleans 56 = .ok (.aload_n 0, 1) := by decide +kernel
theorem dX12_cleans_57 : decode cX12_cleans 57 = .ok (.sipush 368, 3) := by decide +kernel
theorem dX12_cleans_60 : decode cX12_cleans 60 = .ok (.iload_n 2, 1) := by decide +kernel
theorem dX12_cleans_61 : decode cX12_cleans 61 = .ok (.iadd, 1) := by decide +kernel
theorem dX12_cleans_62 : decode cX12_cleans 62 = .ok (.aload_n 0, 1) := by decide +kernel
theorem dX12_cleans_63 : decode cX12_cleans 63 = .ok (.getfield 117, 3) := by decide +kernel
theorem dX12_cleans_66 : decode cX12_cleans 66 = .ok (.sipush 368, 3) := by decide +kernel
theorem dX12_cleans_69 : decode cX12_cleans 69 = .ok (.iload_n 3, 1) := by decide +kernel
theorem dX12_cleans_70 : decode cX12_cleans 70 = .ok (.iadd, 1) := by decide +kernel
theorem dX12_cleans_71 : decode cX12_cleans 71 = .ok (.iaload, 1) := by decide +kernel
theorem dX12_cleans_72 : decode cX12_cleans 72 = .ok (.invokevirtual 450, 3) := by decide +kernel
theorem dX12_cleans_75 : decode cX12_cleans 75 = .ok (.iinc 2 1, 3) := by decide +kernel
theorem dX12_cleans_78 : decode cX12_cleans 78 = .ok (.iinc 3 1, 3) := by decide +kernel
theorem dX12_cleans_81 : decode cX12_cleans 81 = .ok (.goto (-72), 3) := by decide +kernel
theorem dX12_cleans_84 : decode cX12_cleans 84 = .ok (.iconst 0, 1) := by decide +kernel
theorem dX12_cleans_85 : decode cX12_cleans 85 = .ok (.istore_n 3, 1) := by decide +kernel
theorem dX12_cleans_86 : decode cX12_cleans 86 = .ok (.iload_n 3, 1) := by decide +kernel
theorem dX12_cleans_87 : decode cX12_cleans 87 = .ok (.aload_n 0, 1) := by decide +kernel
theorem dX12_cleans_88 : decode cX12_cleans 88 = .ok (.getfield 117, 3) := by decide +kernel
theorem dX12_cleans_91 : decode cX12_cleans 91 = .ok (.iconst 1, 1) := by decide +kernel
theorem dX12_cleans_92 : decode cX12_cleans 92 = .ok (.iaload, 1) := by decide +kernel
theorem dX12_cleans_93 : decode cX12_cleans 93 = .ok (.if_icmp .ge 56, 3) := by decide +kernel
theorem dX12_cleans_96 : decode cX12_cleans 96 = .ok (.aload_n 0, 1) := by decide +kernel
theorem dX12_cleans_97 : decode cX12_cleans 97 = .ok (.iload_n 3, 1) := by decide +kernel
theorem dX12_cleans_98 : decode cX12_cleans 98 = .ok (.invokevirtual 441, 3) := by decide +kernel
theorem dX12_cleans_101 : decode cX12_cleans 101 = .ok (.ifCond .eq 42, 3) := by decide +kernel
theorem dX12_cleans_104 : decode cX12_cleans 104 = .ok (.aload_n 0, 1) := by decide +kernel
theorem dX12_cleans_105 : decode cX12_cleans 105 = .ok (.sipush 798, 3) := by decide +kernel
theorem dX12_cleans_108 : decode cX12_cleans 108 = .ok (.iload_n 3, 1) := by decide +kernel
theorem dX12_cleans_109 : decode cX12_cleans 109 = .ok (.iadd, 1) := by decide +kernel
theorem dX12_cleans_110 : decode cX12_cleans 110 = .ok (.aload_n 0, 1) := by decide +kernel
theorem dX12_cleans_111 : decode cX12_cleans 111 = .ok (.getfield 203, 3) := by decide +kernel
theorem dX12_cleans_114 : decode cX12_cleans 114 = .ok (.aload_n 0, 1) := by decide +kernel
theorem dX12_cleans_115 : decode cX12_cleans 115 = .ok (.iload_n 3, 1) := by decide +kernel
theorem dX12_cleans_116 : decode cX12_cleans 116 = .ok (.invokevirtual 444, 3) := by decide +kernel
theorem dX12_cleans_119 : decode cX12_cleans 119 = .ok (.iaload, 1) := by decide +kernel
theorem dX12_cleans_120 : decode cX12_cleans 120 = .ok (.iconst 1, 1) := by decide +kernel
theorem dX12_cleans_121 : decode cX12_cleans 121 = .ok (.if_icmp .ne 7, 3) := by decide +kernel
theorem dX12_cleans_124 : decode cX12_cleans 124 = .ok (.iconst 0, 1) := by decide +kernel
theorem dX12_cleans_125 : decode cX12_cleans 125 = .ok (.goto 15, 3) := by decide +kernel
theorem dX12_cleans_128 : decode cX12_cleans 128 = .ok (.aload_n 0, 1) := by decide +kernel
theorem dX12_cleans_129 : decode cX12_cleans 129 = .ok (.getfield 206, 3) := by decide +kernel
theorem dX12_cleans_132 : decode cX12_cleans 132 = .ok (.aload_n 0, 1) := by decide +kernel
theorem dX12_cleans_133 : decode cX12_cleans 133 = .ok (.iload_n 3, 1) := by decide +kernel
theorem dX12_cleans_134 : decode cX12_cleans 134 = .ok (.invokevirtual 444, 3) := by decide +kernel
theorem dX12_cleans_137 : decode cX12_cleans 137 = .ok (.iaload, 1) := by decide +kernel
theorem dX12_cleans_138 : decode cX12_cleans 138 = .ok (.iconst 1, 1) := by decide +kernel
theorem dX12_cleans_139 : decode cX12_cleans 139 = .ok (.iadd, 1) := by decide +kernel
theorem dX12_cleans_140 : decode cX12_cleans 140 = .ok (.invokevirtual 450, 3) := by decide +kernel
theorem dX12_cleans_143 : decode cX12_cleans 143 = .ok (.iinc 3 1, 3) := by decide +kernel
theorem dX12_cleans_146 : decode cX12_cleans 146 = .ok (.goto (-60), 3) := by decide +kernel
theorem dX12_cleans_149 : decode cX12_cleans 149 = .ok (.aload_n 0, 1) := by decide +kernel
theorem dX12_cleans_150 : decode cX12_cleans 150 = .ok (.iconst 5, 1) := by decide +kernel
theorem dX12_cleans_151 : decode cX12_cleans 151 = .ok (.iload_n 2, 1) := by decide +kernel
theorem dX12_cleans_152 : decode cX12_cleans 152 = .ok (.invokevirtual 450, 3) := by decide +kernel
theorem dX12_cleans_155 : decode cX12_cleans 155 = .ok (.iconst 0, 1) := by decide +kernel
theorem dX12_cleans_156 : decode cX12_cleans 156 = .ok (.istore_n 3, 1) := by decide +kernel
theorem dX12_cleans_157 : decode cX12_cleans 157 = .ok (.iload_n 3, 1) := by decide +kernel
theorem dX12_cleans_158 : decode cX12_cleans 158 = .ok (.iload_n 1, 1) := by decide +kernel
theorem dX12_cleans_159 : decode cX12_cleans 159 = .ok (.if_icmp .ge 19, 3) := by decide +kernel
theorem dX12_cleans_162 : decode cX12_cleans 162 = .ok (.aload_n 0, 1) := by decide +kernel
theorem dX12_cleans_163 : decode cX12_cleans 163 = .ok (.aload_n 0, 1) := by decide +kernel
theorem dX12_cleans_164 : decode cX12_cleans 164 = .ok (.getfield 209, 3) := by decide +kernel
theorem dX12_cleans_167 : decode cX12_cleans 167 = .ok (.iload_n 3, 1) := by decide +kernel
theorem dX12_cleans_168 : decode cX12_cleans 168 = .ok (.iaload, 1) := by decide +kernel
theorem dX12_cleans_169 : decode cX12_cleans 169 = .ok (.invokevirtual 478, 3) := by decide +kernel
theorem dX12_cleans_172 : decode cX12_cleans 172 = .ok (.iinc 3 1, 3) := by decide +kernel
theorem dX12_cleans_175 : decode cX12_cleans 175 = .ok (.goto (-18), 3) := by decide +kernel
theorem dX12_cleans_178 : decode cX12_cleans 178 = .ok (.return_, 1) := by decide +kernel
abbrev MX12_cleans : MI := (RX12, cX12_cleans, 4, 4, false)
def lcX12_cleans_1 : Ex Bool := (ltI (lvI 3) (aldI 2 (getR 12 34 (lvR 0)) (ciI (iI 5))))
def lbX12_cleans_1 : St := (forB (seqS (astI (getR 12 63 (lvR 0)) (lvI 3) (lvI 2)) (seqS (ifS (eqI (aldI 2 (getR 12 62 (lvR 0)) (lvI 3)) (ciI (iI 1))) contS) (seqS (calS (ckV 12 2) mX12_puts (agC va_rf (lvR 0) (agC Value.int (addI (ciI (iI 58)) (lvI 2)) (agC Value.int (aldI 2 (getR 12 34 (lvR 0)) (addI (ciI (iI 58)) (lvI 3))) agN)))) (seqS (calS (ckV 12 2) mX12_puts (agC va_rf (lvR 0) (agC Value.int (addI (ciI (iI 368)) (lvI 2)) (agC Value.int (aldI 2 (getR 12 34 (lvR 0)) (addI (ciI (iI 368)) (lvI 3))) agN)))) (incI 2 (iI 1)))))) (incI 3 (iI 1)))
def lcX12_cleans_2 : Ex Bool := (ltI (lvI 3) (aldI 2 (getR 12 34 (lvR 0)) (ciI (iI 1))))
def lbX12_cleans_2 : St := (forB (ifS (ne0 (calX decI (ckV 12 1) mX12_isThere (agC va_rf (lvR 0) (agC Value.int (lvI 3) agN)))) (calS (ckV 12 2) mX12_puts (agC va_rf (lvR 0) (agC Value.int (addI (ciI (iI 798)) (lvI 3)) (agC Value.int (iteX (eqI (aldI 2 (getR 12 62 (lvR 0)) (calX decI (ckV 12 1) mX12_boxOf (agC va_rf (lvR 0) (agC Value.int (lvI 3) agN)))) (ciI (iI 1))) (ciI (iI 0)) (addI (aldI 2 (getR 12 63 (lvR 0)) (calX decI (ckV 12 1) mX12_boxOf (agC va_rf (lvR 0) (agC Value.int (lvI 3) agN)))) (ciI (iI 1)))) agN))))) (incI 3 (iI 1)))
def lcX12_cleans_3 : Ex Bool := (ltI (lvI 3) (lvI 1))
def lbX12_cleans_3 : St := (forB (calS (ckV 12 1) mX12_lays (agC va_rf (lvR 0) (agC Value.int (aldI 2 (getR 12 64 (lvR 0)) (lvI 3)) agN))) (incI 3 (iI 1)))
def bX12_cleans : St := (seqS (lsI 1 (calX decI (ckV 12 0) mX12_collects (agC va_rf (lvR 0) agN))) (seqS (lsI 2 (ciI (iI 0))) (seqS (scS 3 (seqS (lsI 3 (ciI (iI 0))) (whileS lcX12_cleans_1 lbX12_cleans_1))) (seqS (scS 3 (seqS (lsI 3 (ciI (iI 0))) (whileS lcX12_cleans_2 lbX12_cleans_2))) (seqS (calS (ckV 12 2) mX12_puts (agC va_rf (lvR 0) (agC Value.int (ciI (iI 5)) (agC Value.int (lvI 2) agN)))) (seqS (scS 3 (seqS (lsI 3 (ciI (iI 0))) (whileS lcX12_cleans_3 lbX12_cleans_3))) retV))))))
theorem jX12_cleans : JS MX12_cleans 0 0 0 179 [] bX12_cleans :=
  (JS.seq (pc1 := 5) (JS.is (pc1 := 4) (k := 1) (JX.call (pc1 := 1) decI_ok (JA.r (JX.al (k := 0) rfl dX12_cleans_0) JA.nil) aX12_collects (RunK.V (i := 556) (c := 12) (n := 0) cl12 rfl (CN nX12_collects (by decide) (by decide)) gw1973 gw1975 gs131 dX12_cleans_1) (by decide)) rfl (show 1 < 4 by decide) dX12_cleans_4) (JS.seq (pc1 := 7) (JS.is (pc1 := 6) (k := 2) (JX.ic (n := 0) rfl dX12_cleans_5) rfl (show 2 < 4 by decide) dX12_cleans_6) (JS.seq (pc1 := 84) (JS.sc (JS.seq (pc1 := 9) (JS.is (pc1 := 8) (k := 3) (JX.ic (n := 0) rfl dX12_cleans_7) rfl (show 3 < 4 by decide) dX12_cleans_8) (JS.while (l := 84) (lb := 84) (pc1 := 19) (pc2 := 81) (pc3 := 84) (CJ.lt_f (tgt := 84) (pc1 := 10) (pc2 := 16) (JX.il (k := 3) rfl dX12_cleans_9) (JX.iald (pc1 := 14) (pc2 := 15) (JX.getR (pc1 := 11) (c := 12) (k := 34) (i := 117) (JX.al (k := 0) rfl dX12_cleans_10) cl12 (by decide) rfl fk12_117 dX12_cleans_11) (JX.ic (n := 5) rfl dX12_cleans_14) dX12_cleans_15) dX12_cleans_16 rfl) (JS.forb (pc1 := 78) (JS.seq (pc1 := 26) (JS.ia (pc1 := 23) (pc2 := 24) (pc3 := 25) (JX.getR (pc1 := 20) (c := 12) (k := 63) (i := 206) (JX.al (k := 0) rfl dX12_cleans_19) cl12 (by decide) rfl fk12_206 dX12_cleans_20) (JX.il (k := 3) rfl dX12_cleans_23) (JX.il (k := 2) rfl dX12_cleans_24) dX12_cleans_25) (JS.seq (pc1 := 39) (JS.ifc (l := 39) (pc1 := 36) (CJ.eq_f (tgt := 39) (pc1 := 32) (pc2 := 33) (JX.iald (pc1 := 30) (pc2 := 31) (JX.getR (pc1 := 27) (c := 12) (k := 62) (i := 203) (JX.al (k := 0) rfl dX12_cleans_26) cl12 (by decide) rfl fk12_203 dX12_cleans_27) (JX.il (k := 3) rfl dX12_cleans_30) dX12_cleans_31) (JX.ic (n := 1) rfl dX12_cleans_32) dX12_cleans_33 rfl) dX12_cleans_36 rfl (Or.inl rfl)) (JS.seq (pc1 := 56) (JS.call (pc1 := 53) (JA.r (JX.al (k := 0) rfl dX12_cleans_39) (JA.i (JX.iadd (pc1 := 42) (pc2 := 43) (JX.bp (n := 58) kb58 dX12_cleans_40) (JX.il (k := 2) rfl dX12_cleans_42) dX12_cleans_43) (JA.i (JX.iald (pc1 := 48) (pc2 := 52) (JX.getR (pc1 := 45) (c := 12) (k := 34) (i := 117) (JX.al (k := 0) rfl dX12_cleans_44) cl12 (by decide) rfl fk12_117 dX12_cleans_45) (JX.iadd (pc1 := 50) (pc2 := 51) (JX.bp (n := 58) kb58 dX12_cleans_48) (JX.il (k := 3) rfl dX12_cleans_50) dX12_cleans_51) dX12_cleans_52) JA.nil))) aX12_puts (RunK.V (i := 450) (c := 12) (n := 2) cl12 rfl (CN nX12_puts (by decide) (by decide)) gw1816 gw1818 gs105 dX12_cleans_53)) (JS.seq (pc1 := 75) (JS.call (pc1 := 72) (JA.r (JX.al (k := 0) rfl dX12_cleans_56) (JA.i (JX.iadd (pc1 := 60) (pc2 := 61) (JX.sp (n := 368) ks368 dX12_cleans_57) (JX.il (k := 2) rfl dX12_cleans_60) dX12_cleans_61) (JA.i (JX.iald (pc1 := 66) (pc2 := 71) (JX.getR (pc1 := 63) (c := 12) (k := 34) (i := 117) (JX.al (k := 0) rfl dX12_cleans_62) cl12 (by decide) rfl fk12_117 dX12_cleans_63) (JX.iadd (pc1 := 69) (pc2 := 70) (JX.sp (n := 368) ks368 dX12_cleans_66) (JX.il (k := 3) rfl dX12_cleans_69) dX12_cleans_70) dX12_cleans_71) JA.nil))) aX12_puts (RunK.V (i := 450) (c := 12) (n := 2) cl12 rfl (CN nX12_puts (by decide) (by decide)) gw1816 gw1818 gs105 dX12_cleans_72)) (JS.inc (n := 1) rfl (show 2 < 4 by decide) dX12_cleans_75))))) (JS.inc (n := 1) rfl (show 3 < 4 by decide) dX12_cleans_78)) dX12_cleans_81 rfl (Or.inl rfl) (Or.inl rfl)))) (JS.seq (pc1 := 149) (JS.sc (JS.seq (pc1 := 86) (JS.is (pc1 := 85) (k := 3) (JX.ic (n := 0) rfl dX12_cleans_84) rfl (show 3 < 4 by decide) dX12_cleans_85) (JS.while (l := 149) (lb := 149) (pc1 := 96) (pc2 := 146) (pc3 := 149) (CJ.lt_f (tgt := 149) (pc1 := 87) (pc2 := 93) (JX.il (k := 3) rfl dX12_cleans_86) (JX.iald (pc1 := 91) (pc2 := 92) (JX.getR (pc1 := 88) (c := 12) (k := 34) (i := 117) (JX.al (k := 0) rfl dX12_cleans_87) cl12 (by decide) rfl fk12_117 dX12_cleans_88) (JX.ic (n := 1) rfl dX12_cleans_91) dX12_cleans_92) dX12_cleans_93 rfl) (JS.forb (pc1 := 143) (JS.iff (l := 143) (pc1 := 104) (CJ.ne0_f (tgt := 143) (pc1 := 101) (JX.call (pc1 := 98) decI_ok (JA.r (JX.al (k := 0) rfl dX12_cleans_96) (JA.i (JX.il (k := 3) rfl dX12_cleans_97) JA.nil)) aX12_isThere (RunK.V (i := 441) (c := 12) (n := 1) cl12 rfl (CN nX12_isThere (by decide) (by decide)) gw1753 gw1755 gs90 dX12_cleans_98) (by decide)) dX12_cleans_101 rfl) (JS.call (pc1 := 140) (JA.r (JX.al (k := 0) rfl dX12_cleans_104) (JA.i (JX.iadd (pc1 := 108) (pc2 := 109) (JX.sp (n := 798) ks798 dX12_cleans_105) (JX.il (k := 3) rfl dX12_cleans_108) dX12_cleans_109) (JA.i (JX.ite (l := 128) (pc1 := 124) (pc2 := 125) (pc3 := 140) (lend := 140) (CJ.eq_f (tgt := 128) (pc1 := 120) (pc2 := 121) (JX.iald (pc1 := 114) (pc2 := 119) (JX.getR (pc1 := 111) (c := 12) (k := 62) (i := 203) (JX.al (k := 0) rfl dX12_cleans_110) cl12 (by decide) rfl fk12_203 dX12_cleans_111) (JX.call (pc1 := 116) decI_ok (JA.r (JX.al (k := 0) rfl dX12_cleans_114) (JA.i (JX.il (k := 3) rfl dX12_cleans_115) JA.nil)) aX12_boxOf (RunK.V (i := 444) (c := 12) (n := 1) cl12 rfl (CN nX12_boxOf (by decide) (by decide)) gw1828 gw1830 gs108 dX12_cleans_116) (by decide)) dX12_cleans_119) (JX.ic (n := 1) rfl dX12_cleans_120) dX12_cleans_121 rfl) (JX.ic (n := 0) rfl dX12_cleans_124) dX12_cleans_125 rfl (JX.iadd (pc1 := 138) (pc2 := 139) (JX.iald (pc1 := 132) (pc2 := 137) (JX.getR (pc1 := 129) (c := 12) (k := 63) (i := 206) (JX.al (k := 0) rfl dX12_cleans_128) cl12 (by decide) rfl fk12_206 dX12_cleans_129) (JX.call (pc1 := 134) decI_ok (JA.r (JX.al (k := 0) rfl dX12_cleans_132) (JA.i (JX.il (k := 3) rfl dX12_cleans_133) JA.nil)) aX12_boxOf (RunK.V (i := 444) (c := 12) (n := 1) cl12 rfl (CN nX12_boxOf (by decide) (by decide)) gw1828 gw1830 gs108 dX12_cleans_134) (by decide)) dX12_cleans_137) (JX.ic (n := 1) rfl dX12_cleans_138) dX12_cleans_139) (Or.inl rfl)) JA.nil))) aX12_puts (RunK.V (i := 450) (c := 12) (n := 2) cl12 rfl (CN nX12_puts (by decide) (by decide)) gw1816 gw1818 gs105 dX12_cleans_140)) (Or.inl rfl)) (JS.inc (n := 1) rfl (show 3 < 4 by decide) dX12_cleans_143)) dX12_cleans_146 rfl (Or.inl rfl) (Or.inl rfl)))) (JS.seq (pc1 := 155) (JS.call (pc1 := 152) (JA.r (JX.al (k := 0) rfl dX12_cleans_149) (JA.i (JX.ic (n := 5) rfl dX12_cleans_150) (JA.i (JX.il (k := 2) rfl dX12_cleans_151) JA.nil))) aX12_puts (RunK.V (i := 450) (c := 12) (n := 2) cl12 rfl (CN nX12_puts (by decide) (by decide)) gw1816 gw1818 gs105 dX12_cleans_152)) (JS.seq (pc1 := 178) (JS.sc (JS.seq (pc1 := 157) (JS.is (pc1 := 156) (k := 3) (JX.ic (n := 0) rfl dX12_cleans_155) rfl (show 3 < 4 by decide) dX12_cleans_156) (JS.while (l := 178) (lb := 178) (pc1 := 162) (pc2 := 175) (pc3 := 178) (CJ.lt_f (tgt := 178) (pc1 := 158) (pc2 := 159) (JX.il (k := 3) rfl dX12_cleans_157) (JX.il (k := 1) rfl dX12_cleans_158) dX12_cleans_159 rfl) (JS.forb (pc1 := 172) (JS.call (pc1 := 169) (JA.r (JX.al (k := 0) rfl dX12_cleans_162) (JA.i (JX.iald (pc1 := 167) (pc2 := 168) (JX.getR (pc1 := 164) (c := 12) (k := 64) (i := 209) (JX.al (k := 0) rfl dX12_cleans_163) cl12 (by decide) rfl fk12_209 dX12_cleans_164) (JX.il (k := 3) rfl dX12_cleans_167) dX12_cleans_168) JA.nil)) aX12_lays (RunK.V (i := 478) (c := 12) (n := 1) cl12 rfl (CN nX12_lays (by decide) (by decide)) gw1820 gw1822 gs106 dX12_cleans_169)) (JS.inc (n := 1) rfl (show 3 < 4 by decide) dX12_cleans_172)) dX12_cleans_175 rfl (Or.inl rfl) (Or.inl rfl)))) (JS.retV dX12_cleans_178)))))))
def mX12_cleans : MS := runM 4 none bX12_cleans
theorem aX12_cleans : MA yX12_cleans cX12_cleans 4 none 4 mX12_cleans := MA.of (plainFor_of_name (by decide)) jX12_cleans
theorem eX12_cleans (a0 : Nat) (h : AH) : mX12_cleans [.ref a0] h = (bX12_cleans [.val (.ref a0), .unset, .unset, .unset] h).bind (finM none) := rfl
/-! PieceStoreModel.isAhead -/
theorem dX12_isAhead_0 : decode cX12_isAhead 0 = .ok (.aload_n 0, 1) := by decide +kernel
theorem dX12_isAhead_1 : decode cX12_isAhead 1 = .ok (.getfield 110, 3) := by decide +kernel
theorem dX12_isAhead_4 : decode cX12_isAhead 4 = .ok (.ifCond .eq 31, 3) := by decide +kernel
theorem dX12_isAhead_7 : decode cX12_isAhead 7 = .ok (.iload_n 1, 1) := by decide +kernel
theorem dX12_isAhead_8 : decode cX12_isAhead 8 = .ok (.iload_n 2, 1) := by decide +kernel
theorem dX12_isAhead_9 : decode cX12_isAhead 9 = .ok (.iload_n 3, 1) := by decide +kernel
theorem dX12_isAhead_10 : decode cX12_isAhead 10 = .ok (.invokestatic 313, 3) := by decide +kernel
theorem dX12_isAhead_13 : decode cX12_isAhead 13 = .ok (.ifCond .eq 22, 3) := by decide +kernel
theorem dX12_isAhead_16 : decode cX12_isAhead 16 = .ok (.aload_n 0, 1) := by decide +kernel
theorem dX12_isAhead_17 : decode cX12_isAhead 17 = .ok (.getfield 117, 3) := by decide +kernel
theorem dX12_isAhead_20 : decode cX12_isAhead 20 = .ok (.bipush 6, 2) := by decide +kernel
theorem dX12_isAhead_22 : decode cX12_isAhead 22 = .ok (.iaload, 1) := by decide +kernel
theorem dX12_isAhead_23 : decode cX12_isAhead 23 = .ok (.sipush 999, 3) := by decide +kernel
theorem dX12_isAhead_26 : decode cX12_isAhead 26 = .ok (.iload_n 1, 1) := by decide +kernel
theorem dX12_isAhead_27 : decode cX12_isAhead 27 = .ok (.isub, 1) := by decide +kernel
theorem dX12_isAhead_28 : decode cX12_isAhead 28 = .ok (.if_icmp .gt 7, 3) := by decide +kernel
theorem dX12_isAhead_31 : decode cX12_isAhead 31 = .ok (.iconst 1, 1) := by decide +kernel
theorem dX12_isAhead_32 : decode cX12_isAhead 32 = .ok (.goto 4, 3) := by decide +kernel
theorem dX12_isAhead_35 : decode cX12_isAhead 35 = .ok (.iconst 0, 1) := by decide +kernel
theorem dX12_isAhead_36 : decode cX12_isAhead 36 = .ok (.ireturn, 1) := by decide +kernel
abbrev MX12_isAhead : MI := (RX12, cX12_isAhead, 4, 2, false)
def bX12_isAhead : St := (retI (iteX (andX (andX (ne0 (getI 12 32 (lvR 0))) (ne0 (calX decI (ckS 3) mX12_is (agC Value.int (lvI 1) (agC Value.int (lvI 2) (agC Value.int (lvI 3) agN)))))) (leI (aldI 2 (getR 12 34 (lvR 0)) (ciI (iI 6))) (subI (ciI (iI 999)) (lvI 1)))) (ciI (iI 1)) (ciI (iI 0))))
theorem jX12_isAhead : JS MX12_isAhead 0 0 0 37 [] bX12_isAhead :=
  (JS.retI (pc1 := 36) (JX.ite (l := 35) (pc1 := 31) (pc2 := 32) (pc3 := 36) (lend := 36) (CJ.and_f (pc1 := 16) (CJ.and_f (pc1 := 7) (CJ.ne0_f (tgt := 35) (pc1 := 4) (JX.getI (pc1 := 1) (c := 12) (k := 32) (i := 110) (JX.al (k := 0) rfl dX12_isAhead_0) cl12 (by decide) rfl fk12_110 dX12_isAhead_1) dX12_isAhead_4 rfl) (CJ.ne0_f (tgt := 35) (pc1 := 13) (JX.call (pc1 := 10) decI_ok (JA.i (JX.il (k := 1) rfl dX12_isAhead_7) (JA.i (JX.il (k := 2) rfl dX12_isAhead_8) (JA.i (JX.il (k := 3) rfl dX12_isAhead_9) JA.nil))) aX12_is (RunK.S (i := 313) (n := 3) (CN nX12_is (by decide) (by decide)) gw1589 gw1590 dX12_isAhead_10) (by decide)) dX12_isAhead_13 rfl)) (CJ.le_f (tgt := 35) (pc1 := 23) (pc2 := 28) (JX.iald (pc1 := 20) (pc2 := 22) (JX.getR (pc1 := 17) (c := 12) (k := 34) (i := 117) (JX.al (k := 0) rfl dX12_isAhead_16) cl12 (by decide) rfl fk12_117 dX12_isAhead_17) (JX.bp (n := 6) kb6 dX12_isAhead_20) dX12_isAhead_22) (JX.isub (pc1 := 26) (pc2 := 27) (JX.sp (n := 999) ks999 dX12_isAhead_23) (JX.il (k := 1) rfl dX12_isAhead_26) dX12_isAhead_27) dX12_isAhead_28 rfl)) (JX.ic (n := 1) rfl dX12_isAhead_31) dX12_isAhead_32 rfl (JX.ic (n := 0) rfl dX12_isAhead_35) (Or.inl rfl)) dX12_isAhead_36)
def mX12_isAhead : MS := runM 4 (some (.boolean)) bX12_isAhead
theorem aX12_isAhead : MA yX12_isAhead cX12_isAhead 4 (some (.boolean)) 2 mX12_isAhead := MA.of (plainFor_of_name (by decide)) jX12_isAhead
theorem eX12_isAhead (a0 : Nat) (a1 : Int32) (a2 : Int32) (a3 : Int32) (h : AH) : mX12_isAhead [.ref a0, .int a1, .int a2, .int a3] h = (bX12_isAhead [.val (.ref a0), .val (.int a1), .val (.int a2), .val (.int a3)] h).bind (finM (some (.boolean))) := rfl
/-! PieceStoreModel.later -/
theorem dX12_later_0 : decode cX12_later 0 = .ok (.aload_n 0, 1) := by decide +kernel
theorem dX12_later_1 : decode cX12_later 1 = .ok (.iload_n 1, 1) := by decide +kernel
theorem dX12_later_2 : decode cX12_later 2 = .ok (.iconst 0, 1) := by decide +kernel
theorem dX12_later_3 : decode cX12_later 3 = .ok (.bipush 40, 2) := by decide +kernel
theorem dX12_later_5 : decode cX12_later 5 = .ok (.invokevirtual 559, 3) := by decide +kernel
theorem dX12_later_8 : decode cX12_later 8 = .ok (.ifCond .eq 12, 3) := by decide +kernel
theorem dX12_later_11 : decode cX12_later 11 = .ok (.iload_n 2, 1) := by decide +kernel
theorem dX12_later_12 : decode cX12_later 12 = .ok (.iconst 0, 1) := by decide +kernel
theorem dX12_later_13 : decode cX12_later 13 = .ok (.iconst 2, 1) := by decide +kernel
theorem dX12_later_14 : decode cX12_later 14 = .ok (.invokestatic 313, 3) := by decide +kernel
theorem dX12_later_17 : decode cX12_later 17 = .ok (.ifCond .ne 5, 3) := by decide +kernel
theorem dX12_later_20 : decode cX12_later 20 = .ok (.iconst (-1), 1) := by decide +kernel
theorem dX12_later_21 : decode cX12_later 21 = .ok (.ireturn, 1) := by decide +kernel
theorem dX12_later_22 : decode cX12_later 22 = .ok (.aload_n 0, 1) := by decide +kernel
theorem dX12_later_23 : decode cX12_later 23 = .ok (.getfield 127, 3) := by decide +kernel
theorem dX12_later_26 : decode cX12_later 26 = .ok (.istore_n 3, 1) := by decide +kernel
theorem dX12_later_27 : decode cX12_later 27 = .ok (.iconst 0, 1) := by decide +kernel
theorem dX12_later_28 : decode cX12_later 28 = .ok (.istore 4, 2) := by decide +kernel
theorem dX12_later_30 : decode cX12_later 30 = .ok (.iload 4, 2) := by decide +kernel
theorem dX12_later_32 : decode cX12_later 32 = .ok (.iload_n 1, 1) := by decide +kernel
theorem dX12_later_33 : decode cX12_later 33 = .ok (.if_icmp .ge 14, 3) := by decide +kernel
theorem dX12_later_36 : decode cX12_later 36 = .ok (.aload_n 0, 1) := by decide +kernel
theorem dX12_later_37 : decode cX12_later 37 = .ok (.invokevirtual 562, 3) := by decide +kernel
theorem dX12_later_40 : decode cX12_later 40 = .ok (.pop, 1) := by decide +kernel
theorem dX12_later_41 : decode cX12_later 41 = .ok (.iinc 4 1, 3) := by decide +kernel
theorem dX12_later_44 : decode cX12_later 44 = .ok (.goto (-14), 3) := by decide +kernel
theorem dX12_later_47 : decode cX12_later 47 = .ok (.iload_n 2, 1) := by decide +kernel
theorem dX12_later_48 : decode cX12_later 48 = .ok (.ifCond .ne 10, 3) := by decide +kernel
theorem dX12_later_51 : decode cX12_later 51 = .ok (.aload_n 0, 1) := by decide +kernel
theorem dX12_later_52 : decode cX12_later 52 = .ok (.invokevirtual 515, 3) := by decide +kernel
theorem dX12_later_55 : decode cX12_later 55 = .ok (.goto 10, 3) := by decide +kernel
theorem dX12_later_58 : decode cX12_later 58 = .ok (.aload_n 0, 1) := by decide +kernel
theorem dX12_later_59 : decode cX12_later 59 = .ok (.iload_n 2, 1) := by decide +kernel
theorem dX12_later_60 : decode cX12_later 60 = .ok (.iconst 1, 1) := by decide +kernel
theorem dX12_later_61 : decode cX12_later 61 = .ok (.isub, 1) := by decide +kernel
theorem dX12_later_62 : decode cX12_later 62 = .ok (.invokevirtual 518, 3) := by decide +kernel
theorem dX12_later_65 : decode cX12_later 65 = .ok (.istore 4, 2) := by decide +kernel
theorem dX12_later_67 : decode cX12_later 67 = .ok (.aload_n 0, 1) := by decide +kernel
theorem dX12_later_68 : decode cX12_later 68 = .ok (.iload_n 3, 1) := by decide +kernel
theorem dX12_later_69 : decode cX12_later 69 = .ok (.invokevirtual 389, 3) := by decide +kernel
theorem dX12_later_72 : decode cX12_later 72 = .ok (.iload 4, 2) := by decide +kernel
theorem dX12_later_74 : decode cX12_later 74 = .ok (.ireturn, 1) := by decide +kernel
abbrev MX12_later : MI := (RX12, cX12_later, 5, 5, false)
def lcX12_later_1 : Ex Bool := (ltI (lvI 4) (lvI 1))
def lbX12_later_1 : St := (forB (exS (calX decI (ckV 12 0) mX12_expired (agC va_rf (lvR 0) agN))) (incI 4 (iI 1)))
def bX12_later : St := (seqS (ifS (orX (notX (ne0 (calX decI (ckV 12 3) mX12_isAhead (agC va_rf (lvR 0) (agC Value.int (lvI 1) (agC Value.int (ciI (iI 0)) (agC Value.int (ciI (iI 40)) agN))))))) (notX (ne0 (calX decI (ckS 3) mX12_is (agC Value.int (lvI 2) (agC Value.int (ciI (iI 0)) (agC Value.int (ciI (iI 2)) agN))))))) (retI (ciI (iI (-1))))) (seqS (lsI 3 (getI 12 37 (lvR 0))) (seqS (scS 4 (seqS (lsI 4 (ciI (iI 0))) (whileS lcX12_later_1 lbX12_later_1))) (seqS (lsI 4 (iteX (eq0 (lvI 2)) (calX decI (ckV 12 0) mX12_backups (agC va_rf (lvR 0) agN)) (calX decI (ckV 12 1) mX12_living (agC va_rf (lvR 0) (agC Value.int (subI (lvI 2) (ciI (iI 1))) agN))))) (seqS (calS (ckV 12 1) mX12_takesBack (agC va_rf (lvR 0) (agC Value.int (lvI 3) agN))) (retI (lvI 4)))))))
theorem jX12_later : JS MX12_later 0 0 0 75 [] bX12_later :=
  (JS.seq (pc1 := 22) (JS.iff (l := 22) (pc1 := 20) (CJ.or_f (l := 20) (pc1 := 11) (CJ.not_t (CJ.ne0_f (tgt := 20) (pc1 := 8) (JX.call (pc1 := 5) decI_ok (JA.r (JX.al (k := 0) rfl dX12_later_0) (JA.i (JX.il (k := 1) rfl dX12_later_1) (JA.i (JX.ic (n := 0) rfl dX12_later_2) (JA.i (JX.bp (n := 40) kb40 dX12_later_3) JA.nil)))) aX12_isAhead (RunK.V (i := 559) (c := 12) (n := 3) cl12 rfl (CN nX12_isAhead (by decide) (by decide)) gw1949 gw1951 gs127 dX12_later_5) (by decide)) dX12_later_8 rfl)) (CJ.not_f (CJ.ne0_t (tgt := 22) (pc1 := 17) (JX.call (pc1 := 14) decI_ok (JA.i (JX.il (k := 2) rfl dX12_later_11) (JA.i (JX.ic (n := 0) rfl dX12_later_12) (JA.i (JX.ic (n := 2) rfl dX12_later_13) JA.nil))) aX12_is (RunK.S (i := 313) (n := 3) (CN nX12_is (by decide) (by decide)) gw1589 gw1590 dX12_later_14) (by decide)) dX12_later_17 rfl)) (Or.inl rfl)) (JS.retI (pc1 := 21) (JX.ic (n := (-1)) rfl dX12_later_20) dX12_later_21) (Or.inl rfl)) (JS.seq (pc1 := 27) (JS.is (pc1 := 26) (k := 3) (JX.getI (pc1 := 23) (c := 12) (k := 37) (i := 127) (JX.al (k := 0) rfl dX12_later_22) cl12 (by decide) rfl fk12_127 dX12_later_23) rfl (show 3 < 5 by decide) dX12_later_26) (JS.seq (pc1 := 47) (JS.sc (JS.seq (pc1 := 30) (JS.is2 (pc1 := 28) (JX.ic (n := 0) rfl dX12_later_27) (show 4 < 5 by decide) dX12_later_28) (JS.while (l := 47) (lb := 47) (pc1 := 36) (pc2 := 44) (pc3 := 47) (CJ.lt_f (tgt := 47) (pc1 := 32) (pc2 := 33) (JX.il2 dX12_later_30) (JX.il (k := 1) rfl dX12_later_32) dX12_later_33 rfl) (JS.forb (pc1 := 41) (JS.pop (pc1 := 40) (JX.call (pc1 := 37) decI_ok (JA.r (JX.al (k := 0) rfl dX12_later_36) JA.nil) aX12_expired (RunK.V (i := 562) (c := 12) (n := 0) cl12 rfl (CN nX12_expired (by decide) (by decide)) gw1953 gw1955 gs128 dX12_later_37) (by decide)) (fun _ => rfl) dX12_later_40) (JS.inc (n := 1) rfl (show 4 < 5 by decide) dX12_later_41)) dX12_later_44 rfl (Or.inl rfl) (Or.inl rfl)))) (JS.seq (pc1 := 67) (JS.is2 (pc1 := 65) (JX.ite (l := 58) (pc1 := 51) (pc2 := 55) (pc3 := 65) (lend := 65) (CJ.eq0_f (tgt := 58) (pc1 := 48) (JX.il (k := 2) rfl dX12_later_47) dX12_later_48 rfl) (JX.call (pc1 := 52) decI_ok (JA.r (JX.al (k := 0) rfl dX12_later_51) JA.nil) aX12_backups (RunK.V (i := 515) (c := 12) (n := 0) cl12 rfl (CN nX12_backups (by decide) (by decide)) gw1844 gw1846 gs111 dX12_later_52) (by decide)) dX12_later_55 rfl (JX.call (pc1 := 62) decI_ok (JA.r (JX.al (k := 0) rfl dX12_later_58) (JA.i (JX.isub (pc1 := 60) (pc2 := 61) (JX.il (k := 2) rfl dX12_later_59) (JX.ic (n := 1) rfl dX12_later_60) dX12_later_61) JA.nil)) aX12_living (RunK.V (i := 518) (c := 12) (n := 1) cl12 rfl (CN nX12_living (by decide) (by decide)) gw1848 gw1850 gs112 dX12_later_62) (by decide)) (Or.inl rfl)) (show 4 < 5 by decide) dX12_later_65) (JS.seq (pc1 := 72) (JS.call (pc1 := 69) (JA.r (JX.al (k := 0) rfl dX12_later_67) (JA.i (JX.il (k := 3) rfl dX12_later_68) JA.nil)) aX12_takesBack (RunK.V (i := 389) (c := 12) (n := 1) cl12 rfl (CN nX12_takesBack (by decide) (by decide)) gw1698 gw1700 gs80 dX12_later_69)) (JS.retI (pc1 := 74) (JX.il2 dX12_later_72) dX12_later_74))))))
def mX12_later : MS := runM 5 (some (.int)) bX12_later
theorem aX12_later : MA yX12_later cX12_later 5 (some (.int)) 5 mX12_later := MA.of (plainFor_of_name (by decide)) jX12_later
theorem eX12_later (a0 : Nat) (a1 : Int32) (a2 : Int32) (h : AH) : mX12_later [.ref a0, .int a1, .int a2] h = (bX12_later [.val (.ref a0), .val (.int a1), .val (.int a2), .unset, .unset] h).bind (finM (some (.int))) := rfl
/-! PieceStoreModel.expires -/
theorem dX12_expires_0 : decode cX12_expires 0 = .ok (.aload_n 0, 1) := by decide +kernel
theorem dX12_expires_1 : decode cX12_expires 1 = .ok (.iload_n 1, 1) := by decide +kernel
theorem dX12_expires_2 : decode cX12_expires 2 = .ok (.invokevirtual 432, 3) := by decide +kernel
theorem dX12_expires_5 : decode cX12_expires 5 = .ok (.ifCond .ne 5, 3) := by decide +kernel
theorem dX12_expires_8 : decode cX12_expires 8 = .ok (.iconst (-1), 1) := by decide +kernel
theorem dX12_expires_9 : decode cX12_expires 9 = .ok (.ireturn, 1) := by decide +kernel
theorem dX12_expires_10 : decode cX12_expires 10 = .ok (.aload_n 0, 1) := by decide +kernel
theorem dX12_expires_11 : decode cX12_expires 11 = .ok (.getfield 127, 3) := by decide +kernel
theorem dX12_expires_14 : decode cX12_expires 14 = .ok (.istore_n 2, 1) := by decide +kernel
theorem dX12_expires_15 : decode cX12_expires 15 = .ok (.iconst (-1), 1) := by decide +kernel
theorem dX12_expires_16 : decode cX12_expires 16 = .ok (.istore_n 3, 1) := by decide +kernel
theorem dX12_expires_17 : decode cX12_expires 17 = .ok (.iconst 1, 1) := by decide +kernel
theorem dX12_expires_18 : decode cX12_expires 18 = .ok (.istore 4, 2) := by decide +kernel
theorem dX12_expires_20 : decode cX12_expires 20 = .ok (.iload 4, 2) := by decide +kernel
theorem dX12_expires_22 : decode cX12_expires 22 = .ok (.bipush 40, 2) := by decide +kernel
theorem dX12_expires_24 : decode cX12_expires 24 = .ok (.if_icmp .gt 43, 3) := by decide +kernel
theorem dX12_expires_27 : decode cX12_expires 27 = .ok (.aload_n 0, 1) := by decide +kernel
theorem dX12_expires_28 : decode cX12_expires 28 = .ok (.getfield 117, 3) := by decide +kernel
theorem dX12_expires_31 : decode cX12_expires 31 = .ok (.bipush 6, 2) := by decide +kernel
theorem dX12_expires_33 : decode cX12_expires 33 = .ok (.iaload, 1) := by decide +kernel
theorem dX12_expires_34 : decode cX12_expires 34 = .ok (.sipush 999, 3) := by decide +kernel
theorem dX12_expires_37 : decode cX12_expires 37 = .ok (.if_icmp .ge 30, 3) := by decide +kernel
theorem dX12_expires_40 : decode cX12_expires 40 = .ok (.iload_n 3, 1) := by decide +kernel
theorem dX12_expires_41 : decode cX12_expires 41 = .ok (.iconst (-1), 1) := by decide +kernel
theorem dX12_expires_42 : decode cX12_expires 42 = .ok (.if_icmp .ne 25, 3) := by decide +kernel
theorem dX12_expires_45 : decode cX12_expires 45 = .ok (.aload_n 0, 1) := by decide +kernel
theorem dX12_expires_46 : decode cX12_expires 46 = .ok (.invokevirtual 562, 3) := by decide +kernel
theorem dX12_expires_49 : decode cX12_expires 49 = .ok (.pop, 1) := by decide +kernel
theorem dX12_expires_50 : decode cX12_expires 50 = .ok (.aload_n 0, 1) := by decide +kernel
theorem dX12_expires_51 : decode cX12_expires 51 = .ok (.iload_n 1, 1) := by decide +kernel
theorem dX12_expires_52 : decode cX12_expires 52 = .ok (.invokevirtual 432, 3) := by decide +kernel
theorem dX12_expires_55 : decode cX12_expires 55 = .ok (.ifCond .ne 6, 3) := by decide +kernel
theorem dX12_expires_58 : decode cX12_expires 58 = .ok (.iload 4, 2) := by decide +kernel
theorem dX12_expires_60 : decode cX12_expires 60 = .ok (.istore_n 3, 1) := by decide +kernel
theorem dX12_expires_61 : decode cX12_expires 61 = .ok (.iinc 4 1, 3) := by decide +kernel
theorem dX12_expires_64 : decode cX12_expires 64 = .ok (.goto (-44), 3) := by decide +kernel
theorem dX12_expires_67 : decode cX12_expires 67 = .ok (.aload_n 0, 1) := by decide +kernel
theorem dX12_expires_68 : decode cX12_expires 68 = .ok (.iload_n 2, 1) := by decide +kernel
theorem dX12_expires_69 : decode cX12_expires 69 = .ok (.invokevirtual 389, 3) := by decide +kernel
theorem dX12_expires_72 : decode cX12_expires 72 = .ok (.iload_n 3, 1) := by decide +kernel
theorem dX12_expires_73 : decode cX12_expires 73 = .ok (.ireturn, 1) := by decide +kernel
abbrev MX12_expires : MI := (RX12, cX12_expires, 5, 4, false)
def lcX12_expires_1 : Ex Bool := (andX (andX (leI (lvI 4) (ciI (iI 40))) (ltI (aldI 2 (getR 12 34 (lvR 0)) (ciI (iI 6))) (ciI (iI 999)))) (eqI (lvI 3) (ciI (iI (-1)))))
def lbX12_expires_1 : St := (forB (seqS (exS (calX decI (ckV 12 0) mX12_expired (agC va_rf (lvR 0) agN))) (ifS (notX (ne0 (calX decI (ckV 12 1) mX12_isBackup (agC va_rf (lvR 0) (agC Value.int (lvI 1) agN))))) (lsI 3 (lvI 4)))) (incI 4 (iI 1)))
def bX12_expires : St := (seqS (ifS (notX (ne0 (calX decI (ckV 12 1) mX12_isBackup (agC va_rf (lvR 0) (agC Value.int (lvI 1) agN))))) (retI (ciI (iI (-1))))) (seqS (lsI 2 (getI 12 37 (lvR 0))) (seqS (lsI 3 (ciI (iI (-1)))) (seqS (scS 4 (seqS (lsI 4 (ciI (iI 1))) (whileS lcX12_expires_1 lbX12_expires_1))) (seqS (calS (ckV 12 1) mX12_takesBack (agC va_rf (lvR 0) (agC Value.int (lvI 2) agN))) (retI (lvI 3)))))))
theorem jX12_expires : JS MX12_expires 0 0 0 74 [] bX12_expires :=
  (JS.seq (pc1 := 10) (JS.iff (l := 10) (pc1 := 8) (CJ.not_f (CJ.ne0_t (tgt := 10) (pc1 := 5) (JX.call (pc1 := 2) decI_ok (JA.r (JX.al (k := 0) rfl dX12_expires_0) (JA.i (JX.il (k := 1) rfl dX12_expires_1) JA.nil)) aX12_isBackup (RunK.V (i := 432) (c := 12) (n := 1) cl12 rfl (CN nX12_isBackup (by decide) (by decide)) gw1710 gw1712 gs82 dX12_expires_2) (by decide)) dX12_expires_5 rfl)) (JS.retI (pc1 := 9) (JX.ic (n := (-1)) rfl dX12_expires_8) dX12_expires_9) (Or.inl rfl)) (JS.seq (pc1 := 15) (JS.is (pc1 := 14) (k := 2) (JX.getI (pc1 := 11) (c := 12) (k := 37) (i := 127) (JX.al (k := 0) rfl dX12_expires_10) cl12 (by decide) rfl fk12_127 dX12_expires_11) rfl (show 2 < 5 by decide) dX12_expires_14) (JS.seq (pc1 := 17) (JS.is (pc1 := 16) (k := 3) (JX.ic (n := (-1)) rfl dX12_expires_15) rfl (show 3 < 5 by decide) dX12_expires_16) (JS.seq (pc1 := 67) (JS.sc (JS.seq (pc1 := 20) (JS.is2 (pc1 := 18) (JX.ic (n := 1) rfl dX12_expires_17) (show 4 < 5 by decide) dX12_expires_18) (JS.while (l := 67) (lb := 67) (pc1 := 45) (pc2 := 64) (pc3 := 67) (CJ.and_f (pc1 := 40) (CJ.and_f (pc1 := 27) (CJ.le_f (tgt := 67) (pc1 := 22) (pc2 := 24) (JX.il2 dX12_expires_20) (JX.bp (n := 40) kb40 dX12_expires_22) dX12_expires_24 rfl) (CJ.lt_f (tgt := 67) (pc1 := 34) (pc2 := 37) (JX.iald (pc1 := 31) (pc2 := 33) (JX.getR (pc1 := 28) (c := 12) (k := 34) (i := 117) (JX.al (k := 0) rfl dX12_expires_27) cl12 (by decide) rfl fk12_117 dX12_expires_28) (JX.bp (n := 6) kb6 dX12_expires_31) dX12_expires_33) (JX.sp (n := 999) ks999 dX12_expires_34) dX12_expires_37 rfl)) (CJ.eq_f (tgt := 67) (pc1 := 41) (pc2 := 42) (JX.il (k := 3) rfl dX12_expires_40) (JX.ic (n := (-1)) rfl dX12_expires_41) dX12_expires_42 rfl)) (JS.forb (pc1 := 61) (JS.seq (pc1 := 50) (JS.pop (pc1 := 49) (JX.call (pc1 := 46) decI_ok (JA.r (JX.al (k := 0) rfl dX12_expires_45) JA.nil) aX12_expired (RunK.V (i := 562) (c := 12) (n := 0) cl12 rfl (CN nX12_expired (by decide) (by decide)) gw1953 gw1955 gs128 dX12_expires_46) (by decide)) (fun _ => rfl) dX12_expires_49) (JS.iff (l := 61) (pc1 := 58) (CJ.not_f (CJ.ne0_t (tgt := 61) (pc1 := 55) (JX.call (pc1 := 52) decI_ok (JA.r (JX.al (k := 0) rfl dX12_expires_50) (JA.i (JX.il (k := 1) rfl dX12_expires_51) JA.nil)) aX12_isBackup (RunK.V (i := 432) (c := 12) (n := 1) cl12 rfl (CN nX12_isBackup (by decide) (by decide)) gw1710 gw1712 gs82 dX12_expires_52) (by decide)) dX12_expires_55 rfl)) (JS.is (pc1 := 60) (k := 3) (JX.il2 dX12_expires_58) rfl (show 3 < 5 by decide) dX12_expires_60) (Or.inl rfl))) (JS.inc (n := 1) rfl (show 4 < 5 by decide) dX12_expires_61)) dX12_expires_64 rfl (Or.inl rfl) (Or.inl rfl)))) (JS.seq (pc1 := 72) (JS.call (pc1 := 69) (JA.r (JX.al (k := 0) rfl dX12_expires_67) (JA.i (JX.il (k := 2) rfl dX12_expires_68) JA.nil)) aX12_takesBack (RunK.V (i := 389) (c := 12) (n := 1) cl12 rfl (CN nX12_takesBack (by decide) (by decide)) gw1698 gw1700 gs80 dX12_expires_69)) (JS.retI (pc1 := 73) (JX.il (k := 3) rfl dX12_expires_72) dX12_expires_73))))))
def mX12_expires : MS := runM 5 (some (.int)) bX12_expires
theorem aX12_expires : MA yX12_expires cX12_expires 5 (some (.int)) 4 mX12_expires := MA.of (plainFor_of_name (by decide)) jX12_expires
theorem eX12_expires (a0 : Nat) (a1 : Int32) (h : AH) : mX12_expires [.ref a0, .int a1] h = (bX12_expires [.val (.ref a0), .val (.int a1), .unset, .unset, .unset] h).bind (finM (some (.int))) := rfl
/-! PieceStoreModel.gain -/
theorem dX12_gain_0 : decode cX12_gain 0 = .ok (.aload_n 0, 1) := by decide +kernel
theorem dX12_gain_1 : decode cX12_gain 1 = .ok (.getfield 110, 3) := by decide +kernel
theorem dX12_gain_4 : decode cX12_gain 4 = .ok (.ifCond .eq 12, 3) := by decide +kernel
theorem dX12_gain_7 : decode cX12_gain 7 = .ok (.iload_n 1, 1) := by decide +kernel
theorem dX12_gain_8 : decode cX12_gain 8 = .ok (.iconst 0, 1) := by decide +kernel
theorem dX12_gain_9 : decode cX12_gain 9 = .ok (.iconst 1, 1) := by decide +kernel
theorem dX12_gain_10 : decode cX12_gain 10 = .ok (.invokestatic 313, 3) := by decide +kernel
theorem dX12_gain_13 : decode cX12_gain 13 = .ok (.ifCond .ne 5, 3) := by decide +kernel
theorem dX12_gain_16 : decode cX12_gain 16 = .ok (.iconst (-1), 1) := by decide +kernel
theorem dX12_gain_17 : decode cX12_gain 17 = .ok (.ireturn, 1) := by decide +kernel
theorem dX12_gain_18 : decode cX12_gain 18 = .ok (.aload_n 0, 1) := by decide +kernel
theorem dX12_gain_19 : decode cX12_gain 19 = .ok (.getfield 127, 3) := by decide +kernel
theorem dX12_gain_22 : decode cX12_gain 22 = .ok (.istore_n 2, 1) := by decide +kernel
theorem dX12_gain_23 : decode cX12_gain 23 = .ok (.aload_n 0, 1) := by decide +kernel
theorem dX12_gain_24 : decode cX12_gain 24 = .ok (.invokevirtual 521, 3) := by decide +kernel
theorem dX12_gain_27 : decode cX12_gain 27 = .ok (.istore_n 3, 1) := by decide +kernel
theorem dX12_gain_28 : decode cX12_gain 28 = .ok (.aload_n 0, 1) := by decide +kernel
theorem dX12_gain_29 : decode cX12_gain 29 = .ok (.getfield 117, 3) := by decide +kernel
theorem dX12_gain_32 : decode cX12_gain 32 = .ok (.iconst 5, 1) := by decide +kernel
theorem dX12_gain_33 : decode cX12_gain 33 = .ok (.iaload, 1) := by decide +kernel
theorem dX12_gain_34 : decode cX12_gain 34 = .ok (.istore 4, 2) := by decide +kernel
theorem dX12_gain_36 : decode cX12_gain 36 = .ok (.aload_n 0, 1) := by decide +kernel
theorem dX12_gain_37 : decode cX12_gain 37 = .ok (.invokevirtual 565, 3) := by decide +kernel
theorem dX12_gain_40 : decode cX12_gain 40 = .ok (.ifCond .le 7, 3) := by decide +kernel
theorem dX12_gain_43 : decode cX12_gain 43 = .ok (.aload_n 0, 1) := by decide +kernel
theorem dX12_gain_44 : decode cX12_gain 44 = .ok (.invokevirtual 568, 3) := by decide +kernel
theorem dX12_gain_47 : decode cX12_gain 47 = .ok (.iload_n 1, 1) := by decide +kernel
theorem dX12_gain_48 : decode cX12_gain 48 = .ok (.ifCond .ne 12, 3) := by decide +kernel
theorem dX12_gain_51 : decode cX12_gain 51 = .ok (.iload_n 3, 1) := by decide +kernel
theorem dX12_gain_52 : decode cX12_gain 52 = .ok (.aload_n 0, 1) := by decide +kernel
theorem dX12_gain_53 : decode cX12_gain 53 = .ok (.invokevirtual 521, 3) := by decide +kernel
theorem dX12_gain_56 : decode cX12_gain 56 = .ok (.isub, 1) := by decide +kernel
theorem dX12_gain_57 : decode cX12_gain 57 = .ok (.goto 12, 3) := by decide +kernel
theorem dX12_gain_60 : decode cX12_gain 60 = .ok (.iload 4, 2) := by decide +kernel
theorem dX12_gain_62 : decode cX12_gain 62 = .ok (.aload_n 0, 1) := by decide +kernel
theorem dX12_gain_63 : decode cX12_gain 63 = .ok (.getfield 117, 3) := by decide +kernel
theorem dX12_gain_66 : decode cX12_gain 66 = .ok (.iconst 5, 1) := by decide +kernel
theorem dX12_gain_67 : decode cX12_gain 67 = .ok (.iaload, 1) := by decide +kernel
theorem dX12_gain_68 : decode cX12_gain 68 = .ok (.isub, 1) := by decide +kernel
theorem dX12_gain_69 : decode cX12_gain 69 = .ok (.istore 5, 2) := by decide +kernel
theorem dX12_gain_71 : decode cX12_gain 71 = .ok (.aload_n 0, 1) := by decide +kernel
theorem dX12_gain_72 : decode cX12_gain 72 = .ok (.iload_n 2, 1) := by decide +kernel
theorem dX12_gain_73 : decode cX12_gain 73 = .ok (.invokevirtual 389, 3) := by decide +kernel
theorem dX12_gain_76 : decode cX12_gain 76 = .ok (.iload 5, 2) := by decide +kernel
theorem dX12_gain_78 : decode cX12_gain 78 = .ok (.ifCond .ge 7, 3) := by decide +kernel
theorem dX12_gain_81 : decode cX12_gain 81 = .ok (.iconst 0, 1) := by decide +kernel
theorem dX12_gain_82 : decode cX12_gain 82 = .ok (.goto 5, 3) := by decide +kernel
theorem dX12_gain_85 : decode cX12_gain 85 = .ok (.iload 5, 2) := by decide +kernel
theorem dX12_gain_87 : decode cX12_gain 87 = .ok (.ireturn, 1) := by decide +kernel
abbrev MX12_gain : MI := (RX12, cX12_gain, 6, 6, false)
def bX12_gain : St := (seqS (ifS (orX (notX (ne0 (getI 12 32 (lvR 0)))) (notX (ne0 (calX decI (ckS 3) mX12_is (agC Value.int (lvI 1) (agC Value.int (ciI (iI 0)) (agC Value.int (ciI (iI 1)) agN))))))) (retI (ciI (iI (-1))))) (seqS (lsI 2 (getI 12 37 (lvR 0))) (seqS (lsI 3 (calX decI (ckV 12 0) mX12_allBytes (agC va_rf (lvR 0) agN))) (seqS (lsI 4 (aldI 2 (getR 12 34 (lvR 0)) (ciI (iI 5)))) (seqS (ifS (gt0 (calX decI (ckV 12 0) mX12_fouls (agC va_rf (lvR 0) agN))) (calS (ckV 12 0) mX12_cleans (agC va_rf (lvR 0) agN))) (seqS (lsI 5 (iteX (eq0 (lvI 1)) (subI (lvI 3) (calX decI (ckV 12 0) mX12_allBytes (agC va_rf (lvR 0) agN))) (subI (lvI 4) (aldI 2 (getR 12 34 (lvR 0)) (ciI (iI 5)))))) (seqS (calS (ckV 12 1) mX12_takesBack (agC va_rf (lvR 0) (agC Value.int (lvI 2) agN))) (retI (iteX (lt0 (lvI 5)) (ciI (iI 0)) (lvI 5))))))))))
theorem jX12_gain : JS MX12_gain 0 0 0 88 [] bX12_gain :=
  (JS.seq (pc1 := 18) (JS.iff (l := 18) (pc1 := 16) (CJ.or_f (l := 16) (pc1 := 7) (CJ.not_t (CJ.ne0_f (tgt := 16) (pc1 := 4) (JX.getI (pc1 := 1) (c := 12) (k := 32) (i := 110) (JX.al (k := 0) rfl dX12_gain_0) cl12 (by decide) rfl fk12_110 dX12_gain_1) dX12_gain_4 rfl)) (CJ.not_f (CJ.ne0_t (tgt := 18) (pc1 := 13) (JX.call (pc1 := 10) decI_ok (JA.i (JX.il (k := 1) rfl dX12_gain_7) (JA.i (JX.ic (n := 0) rfl dX12_gain_8) (JA.i (JX.ic (n := 1) rfl dX12_gain_9) JA.nil))) aX12_is (RunK.S (i := 313) (n := 3) (CN nX12_is (by decide) (by decide)) gw1589 gw1590 dX12_gain_10) (by decide)) dX12_gain_13 rfl)) (Or.inl rfl)) (JS.retI (pc1 := 17) (JX.ic (n := (-1)) rfl dX12_gain_16) dX12_gain_17) (Or.inl rfl)) (JS.seq (pc1 := 23) (JS.is (pc1 := 22) (k := 2) (JX.getI (pc1 := 19) (c := 12) (k := 37) (i := 127) (JX.al (k := 0) rfl dX12_gain_18) cl12 (by decide) rfl fk12_127 dX12_gain_19) rfl (show 2 < 6 by decide) dX12_gain_22) (JS.seq (pc1 := 28) (JS.is (pc1 := 27) (k := 3) (JX.call (pc1 := 24) decI_ok (JA.r (JX.al (k := 0) rfl dX12_gain_23) JA.nil) aX12_allBytes (RunK.V (i := 521) (c := 12) (n := 0) cl12 rfl (CN nX12_allBytes (by decide) (by decide)) gw1864 gw1866 gs116 dX12_gain_24) (by decide)) rfl (show 3 < 6 by decide) dX12_gain_27) (JS.seq (pc1 := 36) (JS.is2 (pc1 := 34) (JX.iald (pc1 := 32) (pc2 := 33) (JX.getR (pc1 := 29) (c := 12) (k := 34) (i := 117) (JX.al (k := 0) rfl dX12_gain_28) cl12 (by decide) rfl fk12_117 dX12_gain_29) (JX.ic (n := 5) rfl dX12_gain_32) dX12_gain_33) (show 4 < 6 by decide) dX12_gain_34) (JS.seq (pc1 := 47) (JS.iff (l := 47) (pc1 := 43) (CJ.gt0_f (tgt := 47) (pc1 := 40) (JX.call (pc1 := 37) decI_ok (JA.r (JX.al (k := 0) rfl dX12_gain_36) JA.nil) aX12_fouls (RunK.V (i := 565) (c := 12) (n := 0) cl12 rfl (CN nX12_fouls (by decide) (by decide)) gw1965 gw1967 gs129 dX12_gain_37) (by decide)) dX12_gain_40 rfl) (JS.call (pc1 := 44) (JA.r (JX.al (k := 0) rfl dX12_gain_43) JA.nil) aX12_cleans (RunK.V (i := 568) (c := 12) (n := 0) cl12 rfl (CN nX12_cleans (by decide) (by decide)) gw1969 gw1971 gs130 dX12_gain_44)) (Or.inl rfl)) (JS.seq (pc1 := 71) (JS.is2 (pc1 := 69) (JX.ite (l := 60) (pc1 := 51) (pc2 := 57) (pc3 := 69) (lend := 69) (CJ.eq0_f (tgt := 60) (pc1 := 48) (JX.il (k := 1) rfl dX12_gain_47) dX12_gain_48 rfl) (JX.isub (pc1 := 52) (pc2 := 56) (JX.il (k := 3) rfl dX12_gain_51) (JX.call (pc1 := 53) decI_ok (JA.r (JX.al (k := 0) rfl dX12_gain_52) JA.nil) aX12_allBytes (RunK.V (i := 521) (c := 12) (n := 0) cl12 rfl (CN nX12_allBytes (by decide) (by decide)) gw1864 gw1866 gs116 dX12_gain_53) (by decide)) dX12_gain_56) dX12_gain_57 rfl (JX.isub (pc1 := 62) (pc2 := 68) (JX.il2 dX12_gain_60) (JX.iald (pc1 := 66) (pc2 := 67) (JX.getR (pc1 := 63) (c := 12) (k := 34) (i := 117) (JX.al (k := 0) rfl dX12_gain_62) cl12 (by decide) rfl fk12_117 dX12_gain_63) (JX.ic (n := 5) rfl dX12_gain_66) dX12_gain_67) dX12_gain_68) (Or.inl rfl)) (show 5 < 6 by decide) dX12_gain_69) (JS.seq (pc1 := 76) (JS.call (pc1 := 73) (JA.r (JX.al (k := 0) rfl dX12_gain_71) (JA.i (JX.il (k := 2) rfl dX12_gain_72) JA.nil)) aX12_takesBack (RunK.V (i := 389) (c := 12) (n := 1) cl12 rfl (CN nX12_takesBack (by decide) (by decide)) gw1698 gw1700 gs80 dX12_gain_73)) (JS.retI (pc1 := 87) (JX.ite (l := 85) (pc1 := 81) (pc2 := 82) (pc3 := 87) (lend := 87) (CJ.lt0_f (tgt := 85) (pc1 := 78) (JX.il2 dX12_gain_76) dX12_gain_78 rfl) (JX.ic (n := 0) rfl dX12_gain_81) dX12_gain_82 rfl (JX.il2 dX12_gain_85) (Or.inl rfl)) dX12_gain_87))))))))
def mX12_gain : MS := runM 6 (some (.int)) bX12_gain
theorem aX12_gain : MA yX12_gain cX12_gain 6 (some (.int)) 6 mX12_gain := MA.of (plainFor_of_name (by decide)) jX12_gain
theorem eX12_gain (a0 : Nat) (a1 : Int32) (h : AH) : mX12_gain [.ref a0, .int a1] h = (bX12_gain [.val (.ref a0), .val (.int a1), .unset, .unset, .unset, .unset] h).bind (finM (some (.int))) := rfl
/-! PieceStoreModel.isUsing -/
theorem dX12_isUsing_0 : decode cX12_isUsing 0 = .ok (.iconst 0, 1) := by decide +kernel
theorem dX12_isUsing_1 : decode cX12_isUsing 1 = .ok (.istore_n 3, 1) := by decide +kernel
theorem dX12_isUsing_2 : decode cX12_isUsing 2 = .ok (.iload_n 3, 1) := by decide +kernel
theorem dX12_isUsing_3 : decode cX12_isUsing 3 = .ok (.aload_n 0, 1) := by decide +kernel
theorem dX12_isUsing_4 : decode cX12_isUsing 4 = .ok (.iload_n 1, 1) := by decide +kernel
theorem dX12_isUsing_5 : decode cX12_isUsing 5 = .ok (.invokevirtual 435, 3) := by decide +kernel
theorem dX12_isUsing_8 : decode cX12_isUsing 8 = .ok (.if_icmp .ge 25, 3) := by decide +kernel
theorem dX12_isUsing_11 : decode cX12_isUsing 11 = .ok (.aload_n 0, 1) := by decide +kernel
theorem dX12_isUsing_12 : decode cX12_isUsing 12 = .ok (.aload_n 0, 1) := by decide +kernel
theorem dX12_isUsing_13 : decode cX12_isUsing 13 = .ok (.iload_n 1, 1) := by decide +kernel
theorem dX12_isUsing_14 : decode cX12_isUsing 14 = .ok (.iload_n 3, 1) := by decide +kernel
theorem dX12_isUsing_15 : decode cX12_isUsing 15 = .ok (.invokevirtual 438, 3) := by decide +kernel
theorem dX12_isUsing_18 : decode cX12_isUsing 18 = .ok (.invokevirtual 444, 3) := by decide +kernel
theorem dX12_isUsing_21 : decode cX12_isUsing 21 = .ok (.iload_n 2, 1) := by decide +kernel
theorem dX12_isUsing_22 : decode cX12_isUsing 22 = .ok (.if_icmp .ne 5, 3) := by decide +kernel
theorem dX12_isUsing_25 : decode cX12_isUsing 25 = .ok (.iconst 1, 1) := by decide +kernel
theorem dX12_isUsing_26 : decode cX12_isUsing 26 = .ok (.ireturn, 1) := by decide +kernel
theorem dX12_isUsing_27 : decode cX12_isUsing 27 = .ok (.iinc 3 1, 3) := by decide +kernel
theorem dX12_isUsing_30 : decode cX12_isUsing 30 = .ok (.goto (-28), 3) := by decide +kernel
theorem dX12_isUsing_33 : decode cX12_isUsing 33 = .ok (.iconst 0, 1) := by decide +kernel
theorem dX12_isUsing_34 : decode cX12_isUsing 34 = .ok (.ireturn, 1) := by decide +kernel
abbrev MX12_isUsing : MI := (RX12, cX12_isUsing, 4, 2, false)
def lcX12_isUsing_1 : Ex Bool := (ltI (lvI 3) (calX decI (ckV 12 1) mX12_manyOf (agC va_rf (lvR 0) (agC Value.int (lvI 1) agN))))
def lbX12_isUsing_1 : St := (forB (ifS (eqI (calX decI (ckV 12 1) mX12_boxOf (agC va_rf (lvR 0) (agC Value.int (calX decI (ckV 12 2) mX12_pieceOf (agC va_rf (lvR 0) (agC Value.int (lvI 1) (agC Value.int (lvI 3) agN)))) agN))) (lvI 2)) (retI (ciI (iI 1)))) (incI 3 (iI 1)))
def bX12_isUsing : St := (seqS (scS 3 (seqS (lsI 3 (ciI (iI 0))) (whileS lcX12_isUsing_1 lbX12_isUsing_1))) (retI (ciI (iI 0))))
theorem jX12_isUsing : JS MX12_isUsing 0 0 0 35 [] bX12_isUsing :=
  (JS.seq (pc1 := 33) (JS.sc (JS.seq (pc1 := 2) (JS.is (pc1 := 1) (k := 3) (JX.ic (n := 0) rfl dX12_isUsing_0) rfl (show 3 < 4 by decide) dX12_isUsing_1) (JS.while (l := 33) (lb := 33) (pc1 := 11) (pc2 := 30) (pc3 := 33) (CJ.lt_f (tgt := 33) (pc1 := 3) (pc2 := 8) (JX.il (k := 3) rfl dX12_isUsing_2) (JX.call (pc1 := 5) decI_ok (JA.r (JX.al (k := 0) rfl dX12_isUsing_3) (JA.i (JX.il (k := 1) rfl dX12_isUsing_4) JA.nil)) aX12_manyOf (RunK.V (i := 435) (c := 12) (n := 1) cl12 rfl (CN nX12_manyOf (by decide) (by decide)) gw1856 gw1858 gs114 dX12_isUsing_5) (by decide)) dX12_isUsing_8 rfl) (JS.forb (pc1 := 27) (JS.iff (l := 27) (pc1 := 25) (CJ.eq_f (tgt := 27) (pc1 := 21) (pc2 := 22) (JX.call (pc1 := 18) decI_ok (JA.r (JX.al (k := 0) rfl dX12_isUsing_11) (JA.i (JX.call (pc1 := 15) decI_ok (JA.r (JX.al (k := 0) rfl dX12_isUsing_12) (JA.i (JX.il (k := 1) rfl dX12_isUsing_13) (JA.i (JX.il (k := 3) rfl dX12_isUsing_14) JA.nil))) aX12_pieceOf (RunK.V (i := 438) (c := 12) (n := 2) cl12 rfl (CN nX12_pieceOf (by decide) (by decide)) gw1860 gw1862 gs115 dX12_isUsing_15) (by decide)) JA.nil)) aX12_boxOf (RunK.V (i := 444) (c := 12) (n := 1) cl12 rfl (CN nX12_boxOf (by decide) (by decide)) gw1828 gw1830 gs108 dX12_isUsing_18) (by decide)) (JX.il (k := 2) rfl dX12_isUsing_21) dX12_isUsing_22 rfl) (JS.retI (pc1 := 26) (JX.ic (n := 1) rfl dX12_isUsing_25) dX12_isUsing_26) (Or.inl rfl)) (JS.inc (n := 1) rfl (show 3 < 4 by decide) dX12_isUsing_27)) dX12_isUsing_30 rfl (Or.inl rfl) (Or.inl rfl)))) (JS.retI (pc1 := 34) (JX.ic (n := 0) rfl dX12_isUsing_33) dX12_isUsing_34))
def mX12_isUsing : MS := runM 4 (some (.boolean)) bX12_isUsing
theorem aX12_isUsing : MA yX12_isUsing cX12_isUsing 4 (some (.boolean)) 2 mX12_isUsing := MA.of (plainFor_of_name (by decide)) jX12_isUsing
theorem eX12_isUsing (a0 : Nat) (a1 : Int32) (a2 : Int32) (h : AH) : mX12_isUsing [.ref a0, .int a1, .int a2] h = (bX12_isUsing [.val (.ref a0), .val (.int a1), .val (.int a2), .unset] h).bind (finM (some (.boolean))) := rfl
/-! PieceStoreModel.odds -/
theorem dX12_odds_0 : decode cX12_odds 0 = .ok (.iload_n 1, 1) := by decide +kernel
theorem dX12_odds_1 : decode cX12_odds 1 = .ok (.iconst (-1), 1) := by decide +kernel
theorem dX12_odds_2 : decode cX12_odds 2 = .ok (.if_icmp .eq 11, 3) := by decide +kernel
theorem dX12_odds_5 : decode cX12_odds 5 = .ok (.aload_n 0, 1) := by decide +kernel
theorem dX12_odds_6 : decode cX12_odds 6 = .ok (.iload_n 1, 1) := by decide +kernel
theorem dX12_odds_7 : decode cX12_odds 7 = .ok (.invokevirtual 432, 3) := by decide +kernel
theorem dX12_odds_10 : decode cX12_odds 10 = .ok (.ifCond .eq 22, 3) := by decide +kernel
theorem dX12_odds_13 : decode cX12_odds 13 = .ok (.aload_n 0, 1) := by decide +kernel
theorem dX12_odds_14 : decode cX12_odds 14 = .ok (.getfield 117, 3) := by decide +kernel
theorem dX12_odds_17 : decode cX12_odds 17 = .ok (.iconst 5, 1) := by decide +kernel
theorem dX12_odds_18 : decode cX12_odds 18 = .ok (.iaload, 1) := by decide +kernel
theorem dX12_odds_19 : decode cX12_odds 19 = .ok (.ifCond .eq 13, 3) := by decide +kernel
theorem dX12_odds_22 : decode cX12_odds 22 = .ok (.aload_n 0, 1) := by decide +kernel
theorem dX12_odds_23 : decode cX12_odds 23 = .ok (.iconst 1, 1) := by decide +kernel
theorem dX12_odds_24 : decode cX12_odds 24 = .ok (.iconst 1, 1) := by decide +kernel
theorem dX12_odds_25 : decode cX12_odds 25 = .ok (.iconst 1, 1) := by decide +kernel
theorem dX12_odds_26 : decode cX12_odds 26 = .ok (.invokevirtual 559, 3) := by decide +kernel
theorem dX12_odds_29 : decode cX12_odds 29 = .ok (.ifCond .ne 5, 3) := by decide +kernel
theorem dX12_odds_32 : decode cX12_odds 32 = .ok (.iconst (-1), 1) := by decide +kernel
theorem dX12_odds_33 : decode cX12_odds 33 = .ok (.ireturn, 1) := by decide +kernel
theorem dX12_odds_34 : decode cX12_odds 34 = .ok (.iload_n 1, 1) := by decide +kernel
theorem dX12_odds_35 : decode cX12_odds 35 = .ok (.iconst (-1), 1) := by decide +kernel
theorem dX12_odds_36 : decode cX12_odds 36 = .ok (.if_icmp .ne 13, 3) := by decide +kernel
theorem dX12_odds_39 : decode cX12_odds 39 = .ok (.bipush 100, 2) := by decide +kernel
theorem dX12_odds_41 : decode cX12_odds 41 = .ok (.aload_n 0, 1) := by decide +kernel
theorem dX12_odds_42 : decode cX12_odds 42 = .ok (.getfield 117, 3) := by decide +kernel
theorem dX12_odds_45 : decode cX12_odds 45 = .ok (.iconst 5, 1) := by decide +kernel
theorem dX12_odds_46 : decode cX12_odds 46 = .ok (.iaload, 1) := by decide +kernel
theorem dX12_odds_47 : decode cX12_odds 47 = .ok (.imul, 1) := by decide +kernel
theorem dX12_odds_48 : decode cX12_odds 48 = .ok (.ireturn, 1) := by decide +kernel
theorem dX12_odds_49 : decode cX12_odds 49 = .ok (.aload_n 0, 1) := by decide +kernel
theorem dX12_odds_50 : decode cX12_odds 50 = .ok (.iload_n 1, 1) := by decide +kernel
theorem dX12_odds_51 : decode cX12_odds 51 = .ok (.invokevirtual 545, 3) := by decide +kernel
theorem dX12_odds_54 : decode cX12_odds 54 = .ok (.iconst (-1), 1) := by decide +kernel
theorem dX12_odds_55 : decode cX12_odds 55 = .ok (.if_icmp .eq 5, 3) := by decide +kernel
theorem dX12_odds_58 : decode cX12_odds 58 = .ok (.iconst 0, 1) := by decide +kernel
theorem dX12_odds_59 : decode cX12_odds 59 = .ok (.ireturn, 1) := by decide +kernel
theorem dX12_odds_60 : decode cX12_odds 60 = .ok (.bipush 100, 2) := by decide +kernel
theorem dX12_odds_62 : decode cX12_odds 62 = .ok (.aload_n 0, 1) := by decide +kernel
theorem dX12_odds_63 : decode cX12_odds 63 = .ok (.bipush 9, 2) := by decide +kernel
theorem dX12_odds_65 : decode cX12_odds 65 = .ok (.invokevirtual 414, 3) := by decide +kernel
theorem dX12_odds_68 : decode cX12_odds 68 = .ok (.isub, 1) := by decide +kernel
theorem dX12_odds_69 : decode cX12_odds 69 = .ok (.aload_n 0, 1) := by decide +kernel
theorem dX12_odds_70 : decode cX12_odds 70 = .ok (.getfield 117, 3) := by decide +kernel
theorem dX12_odds_73 : decode cX12_odds 73 = .ok (.iconst 5, 1) := by decide +kernel
theorem dX12_odds_74 : decode cX12_odds 74 = .ok (.iaload, 1) := by decide +kernel
theorem dX12_odds_75 : decode cX12_odds 75 = .ok (.imul, 1) := by decide +kernel
theorem dX12_odds_76 : decode cX12_odds 76 = .ok (.istore_n 2, 1) := by decide +kernel
theorem dX12_odds_77 : decode cX12_odds 77 = .ok (.iconst 0, 1) := by decide +kernel
theorem dX12_odds_78 : decode cX12_odds 78 = .ok (.istore_n 3, 1) := by decide +kernel
theorem dX12_odds_79 : decode cX12_odds 79 = .ok (.iload_n 3, 1) := by decide +kernel
theorem dX12_odds_80 : decode cX12_odds 80 = .ok (.aload_n 0, 1) := by decide +kernel
theorem dX12_odds_81 : decode cX12_odds 81 = .ok (.getfield 117, 3) := by decide +kernel
theorem dX12_odds_84 : decode cX12_odds 84 = .ok (.iconst 5, 1) := by decide +kernel
theorem dX12_odds_85 : decode cX12_odds 85 = .ok (.iaload, 1) := by decide +kernel
theorem dX12_odds_86 : decode cX12_odds 86 = .ok (.if_icmp .ge 31, 3) := by decide +kernel
theorem dX12_odds_89 : decode cX12_odds 89 = .ok (.iload_n 2, 1) := by decide +kernel
theorem dX12_odds_90 : decode cX12_odds 90 = .ok (.aload_n 0, 1) := by decide +kernel
theorem dX12_odds_91 : decode cX12_odds 91 = .ok (.iload_n 1, 1) := by decide +kernel
theorem dX12_odds_92 : decode cX12_odds 92 = .ok (.iload_n 3, 1) := by decide +kernel
theorem dX12_odds_93 : decode cX12_odds 93 = .ok (.invokevirtual 571, 3) := by decide +kernel
theorem dX12_odds_96 : decode cX12_odds 96 = .ok (.ifCond .eq 7, 3) := by decide +kernel
theorem dX12_odds_99 : decode cX12_odds 99 = .ok (.iconst 0, 1) := by decide +kernel
theorem dX12_odds_100 : decode cX12_odds 100 = .ok (.goto 9, 3) := by decide +kernel
theorem dX12_odds_103 : decode cX12_odds 103 = .ok (.aload_n 0, 1) := by decide +kernel
theorem dX12_odds_104 : decode cX12_odds 104 = .ok (.bipush 9, 2) := by decide +kernel
theorem dX12_odds_106 : decode cX12_odds 106 = .ok (.invokevirtual 414, 3) := by decide +kernel
theorem dX12_odds_109 : decode cX12_odds 109 = .ok (.iadd, 1) := by decide +kernel
theorem dX12_odds_110 : decode cX12_odds 110 = .ok (.istore_n 2, 1) := by decide +kernel
theorem dX12_odds_111 : decode cX12_odds 111 = .ok (.iinc 3 1, 3) := by decide +kernel
theorem dX12_odds_114 : decode cX12_odds 114 = .ok (.goto (-35), 3) := by decide +kernel
theorem dX12_odds_117 : decode cX12_odds 117 = .ok (.iload_n 2, 1) := by decide +kernel
theorem dX12_odds_118 : decode cX12_odds 118 = .ok (.ireturn, 1) := by decide +kernel
abbrev MX12_odds : MI := (RX12, cX12_odds, 4, 3, false)
def lcX12_odds_1 : Ex Bool := (ltI (lvI 3) (aldI 2 (getR 12 34 (lvR 0)) (ciI (iI 5))))
def lbX12_odds_1 : St := (forB (lsI 2 (addI (lvI 2) (iteX (ne0 (calX decI (ckV 12 2) mX12_isUsing (agC va_rf (lvR 0) (agC Value.int (lvI 1) (agC Value.int (lvI 3) agN))))) (ciI (iI 0)) (calX decI (ckV 12 1) mX12_by (agC va_rf (lvR 0) (agC Value.int (ciI (iI 9)) agN)))))) (incI 3 (iI 1)))
def bX12_odds : St := (seqS (ifS (orX (orX (andX (neI (lvI 1) (ciI (iI (-1)))) (notX (ne0 (calX decI (ckV 12 1) mX12_isBackup (agC va_rf (lvR 0) (agC Value.int (lvI 1) agN)))))) (eq0 (aldI 2 (getR 12 34 (lvR 0)) (ciI (iI 5))))) (notX (ne0 (calX decI (ckV 12 3) mX12_isAhead (agC va_rf (lvR 0) (agC Value.int (ciI (iI 1)) (agC Value.int (ciI (iI 1)) (agC Value.int (ciI (iI 1)) agN)))))))) (retI (ciI (iI (-1))))) (seqS (ifS (eqI (lvI 1) (ciI (iI (-1)))) (retI (mulI (ciI (iI 100)) (aldI 2 (getR 12 34 (lvR 0)) (ciI (iI 5)))))) (seqS (ifS (neI (calX decI (ckV 12 1) mX12_lostAt (agC va_rf (lvR 0) (agC Value.int (lvI 1) agN))) (ciI (iI (-1)))) (retI (ciI (iI 0)))) (seqS (lsI 2 (mulI (subI (ciI (iI 100)) (calX decI (ckV 12 1) mX12_by (agC va_rf (lvR 0) (agC Value.int (ciI (iI 9)) agN)))) (aldI 2 (getR 12 34 (lvR 0)) (ciI (iI 5))))) (seqS (scS 3 (seqS (lsI 3 (ciI (iI 0))) (whileS lcX12_odds_1 lbX12_odds_1))) (retI (lvI 2)))))))
theorem jX12_odds : JS MX12_odds 0 0 0 119 [] bX12_odds :=
  (JS.seq (pc1 := 34) (JS.iff (l := 34) (pc1 := 32) (CJ.or_f (l := 32) (pc1 := 22) (CJ.or_t (pc1 := 13) (CJ.and_t (l := 13) (pc1 := 5) (CJ.ne_f (tgt := 13) (pc1 := 1) (pc2 := 2) (JX.il (k := 1) rfl dX12_odds_0) (JX.ic (n := (-1)) rfl dX12_odds_1) dX12_odds_2 rfl) (CJ.not_t (CJ.ne0_f (tgt := 32) (pc1 := 10) (JX.call (pc1 := 7) decI_ok (JA.r (JX.al (k := 0) rfl dX12_odds_5) (JA.i (JX.il (k := 1) rfl dX12_odds_6) JA.nil)) aX12_isBackup (RunK.V (i := 432) (c := 12) (n := 1) cl12 rfl (CN nX12_isBackup (by decide) (by decide)) gw1710 gw1712 gs82 dX12_odds_7) (by decide)) dX12_odds_10 rfl)) (Or.inl rfl)) (CJ.eq0_t (tgt := 32) (pc1 := 19) (JX.iald (pc1 := 17) (pc2 := 18) (JX.getR (pc1 := 14) (c := 12) (k := 34) (i := 117) (JX.al (k := 0) rfl dX12_odds_13) cl12 (by decide) rfl fk12_117 dX12_odds_14) (JX.ic (n := 5) rfl dX12_odds_17) dX12_odds_18) dX12_odds_19 rfl)) (CJ.not_f (CJ.ne0_t (tgt := 34) (pc1 := 29) (JX.call (pc1 := 26) decI_ok (JA.r (JX.al (k := 0) rfl dX12_odds_22) (JA.i (JX.ic (n := 1) rfl dX12_odds_23) (JA.i (JX.ic (n := 1) rfl dX12_odds_24) (JA.i (JX.ic (n := 1) rfl dX12_odds_25) JA.nil)))) aX12_isAhead (RunK.V (i := 559) (c := 12) (n := 3) cl12 rfl (CN nX12_isAhead (by decide) (by decide)) gw1949 gw1951 gs127 dX12_odds_26) (by decide)) dX12_odds_29 rfl)) (Or.inl rfl)) (JS.retI (pc1 := 33) (JX.ic (n := (-1)) rfl dX12_odds_32) dX12_odds_33) (Or.inl rfl)) (JS.seq (pc1 := 49) (JS.iff (l := 49) (pc1 := 39) (CJ.eq_f (tgt := 49) (pc1 := 35) (pc2 := 36) (JX.il (k := 1) rfl dX12_odds_34) (JX.ic (n := (-1)) rfl dX12_odds_35) dX12_odds_36 rfl) (JS.retI (pc1 := 48) (JX.imul (pc1 := 41) (pc2 := 47) (JX.bp (n := 100) kb100 dX12_odds_39) (JX.iald (pc1 := 45) (pc2 := 46) (JX.getR (pc1 := 42) (c := 12) (k := 34) (i := 117) (JX.al (k := 0) rfl dX12_odds_41) cl12 (by decide) rfl fk12_117 dX12_odds_42) (JX.ic (n := 5) rfl dX12_odds_45) dX12_odds_46) dX12_odds_47) dX12_odds_48) (Or.inl rfl)) (JS.seq (pc1 := 60) (JS.iff (l := 60) (pc1 := 58) (CJ.ne_f (tgt := 60) (pc1 := 54) (pc2 := 55) (JX.call (pc1 := 51) decI_ok (JA.r (JX.al (k := 0) rfl dX12_odds_49) (JA.i (JX.il (k := 1) rfl dX12_odds_50) JA.nil)) aX12_lostAt (RunK.V (i := 545) (c := 12) (n := 1) cl12 rfl (CN nX12_lostAt (by decide) (by decide)) gw1928 gw1930 gs124 dX12_odds_51) (by decide)) (JX.ic (n := (-1)) rfl dX12_odds_54) dX12_odds_55 rfl) (JS.retI (pc1 := 59) (JX.ic (n := 0) rfl dX12_odds_58) dX12_odds_59) (Or.inl rfl)) (JS.seq (pc1 := 77) (JS.is (pc1 := 76) (k := 2) (JX.imul (pc1 := 69) (pc2 := 75) (JX.isub (pc1 := 62) (pc2 := 68) (JX.bp (n := 100) kb100 dX12_odds_60) (JX.call (pc1 := 65) decI_ok (JA.r (JX.al (k := 0) rfl dX12_odds_62) (JA.i (JX.bp (n := 9) kb9 dX12_odds_63) JA.nil)) aX12_by (RunK.V (i := 414) (c := 12) (n := 1) cl12 rfl (CN nX12_by (by decide) (by decide)) gw1714 gw1716 gs83 dX12_odds_65) (by decide)) dX12_odds_68) (JX.iald (pc1 := 73) (pc2 := 74) (JX.getR (pc1 := 70) (c := 12) (k := 34) (i := 117) (JX.al (k := 0) rfl dX12_odds_69) cl12 (by decide) rfl fk12_117 dX12_odds_70) (JX.ic (n := 5) rfl dX12_odds_73) dX12_odds_74) dX12_odds_75) rfl (show 2 < 4 by decide) dX12_odds_76) (JS.seq (pc1 := 117) (JS.sc (JS.seq (pc1 := 79) (JS.is (pc1 := 78) (k := 3) (JX.ic (n := 0) rfl dX12_odds_77) rfl (show 3 < 4 by decide) dX12_odds_78) (JS.while (l := 117) (lb := 117) (pc1 := 89) (pc2 := 114) (pc3 := 117) (CJ.lt_f (tgt := 117) (pc1 := 80) (pc2 := 86) (JX.il (k := 3) rfl dX12_odds_79) (JX.iald (pc1 := 84) (pc2 := 85) (JX.getR (pc1 := 81) (c := 12) (k := 34) (i := 117) (JX.al (k := 0) rfl dX12_odds_80) cl12 (by decide) rfl fk12_117 dX12_odds_81) (JX.ic (n := 5) rfl dX12_odds_84) dX12_odds_85) dX12_odds_86 rfl) (JS.forb (pc1 := 111) (JS.is (pc1 := 110) (k := 2) (JX.iadd (pc1 := 90) (pc2 := 109) (JX.il (k := 2) rfl dX12_odds_89) (JX.ite (l := 103) (pc1 := 99) (pc2 := 100) (pc3 := 109) (lend := 109) (CJ.ne0_f (tgt := 103) (pc1 := 96) (JX.call (pc1 := 93) decI_ok (JA.r (JX.al (k := 0) rfl dX12_odds_90) (JA.i (JX.il (k := 1) rfl dX12_odds_91) (JA.i (JX.il (k := 3) rfl dX12_odds_92) JA.nil))) aX12_isUsing (RunK.V (i := 571) (c := 12) (n := 2) cl12 rfl (CN nX12_isUsing (by decide) (by decide)) gw1981 gw1983 gs132 dX12_odds_93) (by decide)) dX12_odds_96 rfl) (JX.ic (n := 0) rfl dX12_odds_99) dX12_odds_100 rfl (JX.call (pc1 := 106) decI_ok (JA.r (JX.al (k := 0) rfl dX12_odds_103) (JA.i (JX.bp (n := 9) kb9 dX12_odds_104) JA.nil)) aX12_by (RunK.V (i := 414) (c := 12) (n := 1) cl12 rfl (CN nX12_by (by decide) (by decide)) gw1714 gw1716 gs83 dX12_odds_106) (by decide)) (Or.inl rfl)) dX12_odds_109) rfl (show 2 < 4 by decide) dX12_odds_110) (JS.inc (n := 1) rfl (show 3 < 4 by decide) dX12_odds_111)) dX12_odds_114 rfl (Or.inl rfl) (Or.inl rfl)))) (JS.retI (pc1 := 118) (JX.il (k := 2) rfl dX12_odds_117) dX12_odds_118))))))
def mX12_odds : MS := runM 4 (some (.int)) bX12_odds
theorem aX12_odds : MA yX12_odds cX12_odds 4 (some (.int)) 3 mX12_odds := MA.of (plainFor_of_name (by decide)) jX12_odds
theorem eX12_odds (a0 : Nat) (a1 : Int32) (h : AH) : mX12_odds [.ref a0, .int a1] h = (bX12_odds [.val (.ref a0), .val (.int a1), .unset, .unset] h).bind (finM (some (.int))) := rfl
/-! PieceStoreModel.meet -/
theorem dX12_meet_0 : decode cX12_meet 0 = .ok (.aload_n 0, 1) := by decide +kernel
theorem dX12_meet_1 : decode cX12_meet 1 = .ok (.getfield 13, 3) := by decide +kernel
theorem dX12_meet_4 : decode cX12_meet 4 = .ok (.istore_n 1, 1) := by decide +kernel
theorem dX12_meet_5 : decode cX12_meet 5 = .ok (.aload_n 0, 1) := by decide +kernel
theorem dX12_meet_6 : decode cX12_meet 6 = .ok (.iconst 0, 1) := by decide +kernel
theorem dX12_meet_7 : decode cX12_meet 7 = .ok (.putfield 13, 3) := by decide +kernel
theorem dX12_meet_10 : decode cX12_meet 10 = .ok (.aload_n 0, 1) := by decide +kernel
theorem dX12_meet_11 : decode cX12_meet 11 = .ok (.getfield 110, 3) := by decide +kernel
theorem dX12_meet_14 : decode cX12_meet 14 = .ok (.ifCond .eq 23, 3) := by decide +kernel
theorem dX12_meet_17 : decode cX12_meet 17 = .ok (.iload_n 1, 1) := by decide +kernel
theorem dX12_meet_18 : decode cX12_meet 18 = .ok (.ifCond .le 19, 3) := by decide +kernel
theorem dX12_meet_21 : decode cX12_meet 21 = .ok (.iload_n 1, 1) := by decide +kernel
theorem dX12_meet_22 : decode cX12_meet 22 = .ok (.iconst 2, 1) := by decide +kernel
theorem dX12_meet_23 : decode cX12_meet 23 = .ok (.irem, 1) := by decide +kernel
theorem dX12_meet_24 : decode cX12_meet 24 = .ok (.ifCond .ne 13, 3) := by decide +kernel
theorem dX12_meet_27 : decode cX12_meet 27 = .ok (.iload_n 1, 1) := by decide +kernel
theorem dX12_meet_28 : decode cX12_meet 28 = .ok (.bipush 32, 2) := by decide +kernel
theorem dX12_meet_30 : decode cX12_meet 30 = .ok (.if_icmp .gt 7, 3) := by decide +kernel
theorem dX12_meet_33 : decode cX12_meet 33 = .ok (.iconst 1, 1) := by decide +kernel
theorem dX12_meet_34 : decode cX12_meet 34 = .ok (.goto 4, 3) := by decide +kernel
theorem dX12_meet_37 : decode cX12_meet 37 = .ok (.iconst 0, 1) := by decide +kernel
theorem dX12_meet_38 : decode cX12_meet 38 = .ok (.istore_n 2, 1) := by decide +kernel
theorem dX12_meet_39 : decode cX12_meet 39 = .ok (.iconst 0, 1) := by decide +kernel
theorem dX12_meet_40 : decode cX12_meet 40 = .ok (.istore_n 3, 1) := by decide +kernel
theorem dX12_meet_41 : decode cX12_meet 41 = .ok (.iload_n 3, 1) := by decide +kernel
theorem dX12_meet_42 : decode cX12_meet 42 = .ok (.iload_n 1, 1) := by decide +kernel
theorem dX12_meet_43 : decode cX12_meet 43 = .ok (.if_icmp .ge 43, 3) := by decide +kernel
theorem dX12_meet_46 : decode cX12_meet 46 = .ok (.iload_n 2, 1) := by decide +kernel
theorem dX12_meet_47 : decode cX12_meet 47 = .ok (.ifCond .eq 39, 3) := by decide +kernel
theorem dX12_meet_50 : decode cX12_meet 50 = .ok (.aload_n 0, 1) := by decide +kernel
theorem dX12_meet_51 : decode cX12_meet 51 = .ok (.getfield 9, 3) := by decide +kernel
theorem dX12_meet_54 : decode cX12_meet 54 = .ok (.iload_n 3, 1) := by decide +kernel
theorem dX12_meet_55 : decode cX12_meet 55 = .ok (.iaload, 1) := by decide +kernel
theorem dX12_meet_56 : decode cX12_meet 56 = .ok (.bipush 40, 2) := by decide +kernel
theorem dX12_meet_58 : decode cX12_meet 58 = .ok (.if_icmp .ge 20, 3) := by decide +kernel
theorem dX12_meet_61 : decode cX12_meet 61 = .ok (.aload_n 0, 1) := by decide +kernel
theorem dX12_meet_62 : decode cX12_meet 62 = .ok (.getfield 9, 3) := by decide +kernel
theorem dX12_meet_65 : decode cX12_meet 65 = .ok (.iload_n 3, 1) := by decide +kernel
theorem dX12_meet_66 : decode cX12_meet 66 = .ok (.iconst 1, 1) := by decide +kernel
theorem dX12_meet_67 : decode cX12_meet 67 = .ok (.iadd, 1) := by decide +kernel
theorem dX12_meet_68 : decode cX12_meet 68 = .ok (.iaload, 1) := by decide +kernel
theorem dX12_meet_69 : decode cX12_meet 69 = .ok (.bipush 60, 2) := by decide +kernel
theorem dX12_meet_71 : decode cX12_meet 71 = .ok (.if_icmp .gt 7, 3) := by decide +kernel
theorem dX12_meet_74 : decode cX12_meet 74 = .ok (.iconst 1, 1) := by decide +kernel
theorem dX12_meet_75 : decode cX12_meet 75 = .ok (.goto 4, 3) := by decide +kernel
theorem dX12_meet_78 : decode cX12_meet 78 = .ok (.iconst 0, 1) := by decide +kernel
theorem dX12_meet_79 : decode cX12_meet 79 = .ok (.istore_n 2, 1) := by decide +kernel
theorem dX12_meet_80 : decode cX12_meet 80 = .ok (.iinc 3 2, 3) := by decide +kernel
theorem dX12_meet_83 : decode cX12_meet 83 = .ok (.goto (-42), 3) := by decide +kernel
theorem dX12_meet_86 : decode cX12_meet 86 = .ok (.iload_n 2, 1) := by decide +kernel
theorem dX12_meet_87 : decode cX12_meet 87 = .ok (.ifCond .ne 9, 3) := by decide +kernel
theorem dX12_meet_90 : decode cX12_meet 90 = .ok (.aload_n 0, 1) := by decide +kernel
theorem dX12_meet_91 : decode cX12_meet 91 = .ok (.iconst 5, 1) := by decide +kernel
theorem dX12_meet_92 : decode cX12_meet 92 = .ok (.invokevirtual 227, 3) := by decide +kernel
theorem dX12_meet_95 : decode cX12_meet 95 = .ok (.ireturn, 1) := by decide +kernel
theorem dX12_meet_96 : decode cX12_meet 96 = .ok (.aload_n 0, 1) := by decide +kernel
theorem dX12_meet_97 : decode cX12_meet 97 = .ok (.iload_n 1, 1) := by decide +kernel
theorem dX12_meet_98 : decode cX12_meet 98 = .ok (.iconst 2, 1) := by decide +kernel
theorem dX12_meet_99 : decode cX12_meet 99 = .ok (.idiv, 1) := by decide +kernel
theorem dX12_meet_100 : decode cX12_meet 100 = .ok (.putfield 212, 3) := by decide +kernel
theorem dX12_meet_103 : decode cX12_meet 103 = .ok (.iconst 0, 1) := by decide +kernel
theorem dX12_meet_104 : decode cX12_meet 104 = .ok (.istore_n 3, 1) := by decide +kernel
theorem dX12_meet_105 : decode cX12_meet 105 = .ok (.iload_n 3, 1) := by decide +kernel
theorem dX12_meet_106 : decode cX12_meet 106 = .ok (.aload_n 0, 1) := by decide +kernel
theorem dX12_meet_107 : decode cX12_meet 107 = .ok (.getfield 212, 3) := by decide +kernel
theorem dX12_meet_110 : decode cX12_meet 110 = .ok (.if_icmp .ge 39, 3) := by decide +kernel
theorem dX12_meet_113 : decode cX12_meet 113 = .ok (.aload_n 0, 1) := by decide +kernel
theorem dX12_meet_114 : decode cX12_meet 114 = .ok (.getfield 215, 3) := by decide +kernel
theorem dX12_meet_117 : decode cX12_meet 117 = .ok (.iload_n 3, 1) := by decide +kernel
theorem dX12_meet_118 : decode cX12_meet 118 = .ok (.aload_n 0, 1) := by decide +kernel
theorem dX12_meet_119 : decode cX12_meet 119 = .ok (.getfield 9, 3) := by decide +kernel
theorem dX12_meet_122 : decode cX12_meet 122 = .ok (.iconst 2, 1) := by decide +kernel
theorem dX12_meet_123 : decode cX12_meet 123 = .ok (.iload_n 3, 1) := by decide +kernel
theorem dX12_meet_124 : decode cX12_meet 124 = .ok (.imul, 1) := by decide +kernel
theorem dX12_meet_125 : decode cX12_meet 125 = .ok (.iaload, 1) := by decide +kernel
theorem dX12_meet_126 : decode cX12_meet 126 = .ok (.iastore, 1) := by decide +kernel
theorem dX12_meet_127 : decode cX12_meet 127 = .ok (.aload_n 0, 1) := by decide +kernel
theorem dX12_meet_128 : decode cX12_meet 128 = .ok (.getfield 218, 3) := by decide +kernel
theorem dX12_meet_131 : decode cX12_meet 131 = .ok (.iload_n 3, 1) := by decide +kernel
theorem dX12_meet_132 : decode cX12_meet 132 = .ok (.aload_n 0, 1) := by decide +kernel
theorem dX12_meet_133 : decode cX12_meet 133 = .ok (.getfield 9, 3) := by decide +kernel
theorem dX12_meet_136 : decode cX12_meet 136 = .ok (.iconst 2, 1) := by decide +kernel
theorem dX12_meet_137 : decode cX12_meet 137 = .ok (.iload_n 3, 1) := by decide +kernel
theorem dX12_meet_138 : decode cX12_meet 138 = .ok (.imul, 1) := by decide +kernel
theorem dX12_meet_139 : decode cX12_meet 139 = .ok (.iconst 1, 1) := by decide +kernel
theorem dX12_meet_140 : decode cX12_meet 140 = .ok (.iadd, 1) := by decide +kernel
theorem dX12_meet_141 : decode cX12_meet 141 = .ok (.iaload, 1) := by decide +kernel
theorem dX12_meet_142 : decode cX12_meet 142 = .ok (.iastore, 1) := by decide +kernel
theorem dX12_meet_143 : decode cX12_meet 143 = .ok (.iinc 3 1, 3) := by decide +kernel
theorem dX12_meet_146 : decode cX12_meet 146 = .ok (.goto (-41), 3) := by decide +kernel
theorem dX12_meet_149 : decode cX12_meet 149 = .ok (.aload_n 0, 1) := by decide +kernel
theorem dX12_meet_150 : decode cX12_meet 150 = .ok (.getfield 212, 3) := by decide +kernel
theorem dX12_meet_153 : decode cX12_meet 153 = .ok (.ireturn, 1) := by decide +kernel
abbrev MX12_meet : MI := (RX12, cX12_meet, 4, 2, false)
def lcX12_meet_1 : Ex Bool := (andX (ltI (lvI 3) (lvI 1)) (ne0 (lvI 2)))
def lbX12_meet_1 : St := (forB (lsI 2 (iteX (andX (ltI (aldI 2 (getR 12 0 (lvR 0)) (lvI 3)) (ciI (iI 40))) (leI (aldI 2 (getR 12 0 (lvR 0)) (addI (lvI 3) (ciI (iI 1)))) (ciI (iI 60)))) (ciI (iI 1)) (ciI (iI 0)))) (incI 3 (iI 2)))
def lcX12_meet_2 : Ex Bool := (ltI (lvI 3) (getI 12 65 (lvR 0)))
def lbX12_meet_2 : St := (forB (seqS (astI (getR 12 66 (lvR 0)) (lvI 3) (aldI 2 (getR 12 0 (lvR 0)) (mulI (ciI (iI 2)) (lvI 3)))) (astI (getR 12 67 (lvR 0)) (lvI 3) (aldI 2 (getR 12 0 (lvR 0)) (addI (mulI (ciI (iI 2)) (lvI 3)) (ciI (iI 1)))))) (incI 3 (iI 1)))
def bX12_meet : St := (seqS (lsI 1 (getI 12 1 (lvR 0))) (seqS (putI 12 1 (lvR 0) (ciI (iI 0))) (seqS (lsI 2 (iteX (andX (andX (andX (ne0 (getI 12 32 (lvR 0))) (gt0 (lvI 1))) (eq0 (remI (lvI 1) (ciI (iI 2))))) (leI (lvI 1) (ciI (iI 32)))) (ciI (iI 1)) (ciI (iI 0)))) (seqS (scS 3 (seqS (lsI 3 (ciI (iI 0))) (whileS lcX12_meet_1 lbX12_meet_1))) (seqS (ifS (notX (ne0 (lvI 2))) (retI (calX decI (ckV 12 1) mX12_refuses (agC va_rf (lvR 0) (agC Value.int (ciI (iI 5)) agN))))) (seqS (putI 12 65 (lvR 0) (divI (lvI 1) (ciI (iI 2)))) (seqS (scS 3 (seqS (lsI 3 (ciI (iI 0))) (whileS lcX12_meet_2 lbX12_meet_2))) (retI (getI 12 65 (lvR 0))))))))))
theorem jX12_meet : JS MX12_meet 0 0 0 154 [] bX12_meet :=
  (JS.seq (pc1 := 5) (JS.is (pc1 := 4) (k := 1) (JX.getI (pc1 := 1) (c := 12) (k := 1) (i := 13) (JX.al (k := 0) rfl dX12_meet_0) cl12 (by decide) rfl fk12_13 dX12_meet_1) rfl (show 1 < 4 by decide) dX12_meet_4) (JS.seq (pc1 := 10) (JS.pI (pc1 := 6) (pc2 := 7) (c := 12) (k := 1) (i := 13) (JX.al (k := 0) rfl dX12_meet_5) (JX.ic (n := 0) rfl dX12_meet_6) cl12 (by decide) rfl fk12_13 (Or.inl rfl) dX12_meet_7) (JS.seq (pc1 := 39) (JS.is (pc1 := 38) (k := 2) (JX.ite (l := 37) (pc1 := 33) (pc2 := 34) (pc3 := 38) (lend := 38) (CJ.and_f (pc1 := 27) (CJ.and_f (pc1 := 21) (CJ.and_f (pc1 := 17) (CJ.ne0_f (tgt := 37) (pc1 := 14) (JX.getI (pc1 := 11) (c := 12) (k := 32) (i := 110) (JX.al (k := 0) rfl dX12_meet_10) cl12 (by decide) rfl fk12_110 dX12_meet_11) dX12_meet_14 rfl) (CJ.gt0_f (tgt := 37) (pc1 := 18) (JX.il (k := 1) rfl dX12_meet_17) dX12_meet_18 rfl)) (CJ.eq0_f (tgt := 37) (pc1 := 24) (JX.irem (pc1 := 22) (pc2 := 23) (JX.il (k := 1) rfl dX12_meet_21) (JX.ic (n := 2) rfl dX12_meet_22) dX12_meet_23) dX12_meet_24 rfl)) (CJ.le_f (tgt := 37) (pc1 := 28) (pc2 := 30) (JX.il (k := 1) rfl dX12_meet_27) (JX.bp (n := 32) kb32 dX12_meet_28) dX12_meet_30 rfl)) (JX.ic (n := 1) rfl dX12_meet_33) dX12_meet_34 rfl (JX.ic (n := 0) rfl dX12_meet_37) (Or.inl rfl)) rfl (show 2 < 4 by decide) dX12_meet_38) (JS.seq (pc1 := 86) (JS.sc (JS.seq (pc1 := 41) (JS.is (pc1 := 40) (k := 3) (JX.ic (n := 0) rfl dX12_meet_39) rfl (show 3 < 4 by decide) dX12_meet_40) (JS.while (l := 86) (lb := 86) (pc1 := 50) (pc2 := 83) (pc3 := 86) (CJ.and_f (pc1 := 46) (CJ.lt_f (tgt := 86) (pc1 := 42) (pc2 := 43) (JX.il (k := 3) rfl dX12_meet_41) (JX.il (k := 1) rfl dX12_meet_42) dX12_meet_43 rfl) (CJ.ne0_f (tgt := 86) (pc1 := 47) (JX.il (k := 2) rfl dX12_meet_46) dX12_meet_47 rfl)) (JS.forb (pc1 := 80) (JS.is (pc1 := 79) (k := 2) (JX.ite (l := 78) (pc1 := 74) (pc2 := 75) (pc3 := 79) (lend := 79) (CJ.and_f (pc1 := 61) (CJ.lt_f (tgt := 78) (pc1 := 56) (pc2 := 58) (JX.iald (pc1 := 54) (pc2 := 55) (JX.getR (pc1 := 51) (c := 12) (k := 0) (i := 9) (JX.al (k := 0) rfl dX12_meet_50) cl12 (by decide) rfl fk12_9 dX12_meet_51) (JX.il (k := 3) rfl dX12_meet_54) dX12_meet_55) (JX.bp (n := 40) kb40 dX12_meet_56) dX12_meet_58 rfl) (CJ.le_f (tgt := 78) (pc1 := 69) (pc2 := 71) (JX.iald (pc1 := 65) (pc2 := 68) (JX.getR (pc1 := 62) (c := 12) (k := 0) (i := 9) (JX.al (k := 0) rfl dX12_meet_61) cl12 (by decide) rfl fk12_9 dX12_meet_62) (JX.iadd (pc1 := 66) (pc2 := 67) (JX.il (k := 3) rfl dX12_meet_65) (JX.ic (n := 1) rfl dX12_meet_66) dX12_meet_67) dX12_meet_68) (JX.bp (n := 60) kb60 dX12_meet_69) dX12_meet_71 rfl)) (JX.ic (n := 1) rfl dX12_meet_74) dX12_meet_75 rfl (JX.ic (n := 0) rfl dX12_meet_78) (Or.inl rfl)) rfl (show 2 < 4 by decide) dX12_meet_79) (JS.inc (n := 2) rfl (show 3 < 4 by decide) dX12_meet_80)) dX12_meet_83 rfl (Or.inl rfl) (Or.inl rfl)))) (JS.seq (pc1 := 96) (JS.iff (l := 96) (pc1 := 90) (CJ.not_f (CJ.ne0_t (tgt := 96) (pc1 := 87) (JX.il (k := 2) rfl dX12_meet_86) dX12_meet_87 rfl)) (JS.retI (pc1 := 95) (JX.call (pc1 := 92) decI_ok (JA.r (JX.al (k := 0) rfl dX12_meet_90) (JA.i (JX.ic (n := 5) rfl dX12_meet_91) JA.nil)) aX12_refuses (RunK.V (i := 227) (c := 12) (n := 1) cl12 rfl (CN nX12_refuses (by decide) (by decide)) gw1530 gw1532 gs54 dX12_meet_92) (by decide)) dX12_meet_95) (Or.inl rfl)) (JS.seq (pc1 := 103) (JS.pI (pc1 := 97) (pc2 := 100) (c := 12) (k := 65) (i := 212) (JX.al (k := 0) rfl dX12_meet_96) (JX.idiv (pc1 := 98) (pc2 := 99) (JX.il (k := 1) rfl dX12_meet_97) (JX.ic (n := 2) rfl dX12_meet_98) dX12_meet_99) cl12 (by decide) rfl fk12_212 (Or.inl rfl) dX12_meet_100) (JS.seq (pc1 := 149) (JS.sc (JS.seq (pc1 := 105) (JS.is (pc1 := 104) (k := 3) (JX.ic (n := 0) rfl dX12_meet_103) rfl (show 3 < 4 by decide) dX12_meet_104) (JS.while (l := 149) (lb := 149) (pc1 := 113) (pc2 := 146) (pc3 := 149) (CJ.lt_f (tgt := 149) (pc1 := 106) (pc2 := 110) (JX.il (k := 3) rfl dX12_meet_105) (JX.getI (pc1 := 107) (c := 12) (k := 65) (i := 212) (JX.al (k := 0) rfl dX12_meet_106) cl12 (by decide) rfl fk12_212 dX12_meet_107) dX12_meet_110 rfl) (JS.forb (pc1 := 143) (JS.seq (pc1 := 127) (JS.ia (pc1 := 117) (pc2 := 118) (pc3 := 126) (JX.getR (pc1 := 114) (c := 12) (k := 66) (i := 215) (JX.al (k := 0) rfl dX12_meet_113) cl12 (by decide) rfl fk12_215 dX12_meet_114) (JX.il (k := 3) rfl dX12_meet_117) (JX.iald (pc1 := 122) (pc2 := 125) (JX.getR (pc1 := 119) (c := 12) (k := 0) (i := 9) (JX.al (k := 0) rfl dX12_meet_118) cl12 (by decide) rfl fk12_9 dX12_meet_119) (JX.imul (pc1 := 123) (pc2 := 124) (JX.ic (n := 2) rfl dX12_meet_122) (JX.il (k := 3) rfl dX12_meet_123) dX12_meet_124) dX12_meet_125) dX12_meet_126) (JS.ia (pc1 := 131) (pc2 := 132) (pc3 := 142) (JX.getR (pc1 := 128) (c := 12) (k := 67) (i := 218) (JX.al (k := 0) rfl dX12_meet_127) cl12 (by decide) rfl fk12_218 dX12_meet_128) (JX.il (k := 3) rfl dX12_meet_131) (JX.iald (pc1 := 136) (pc2 := 141) (JX.getR (pc1 := 133) (c := 12) (k := 0) (i := 9) (JX.al (k := 0) rfl dX12_meet_132) cl12 (by decide) rfl fk12_9 dX12_meet_133) (JX.iadd (pc1 := 139) (pc2 := 140) (JX.imul (pc1 := 137) (pc2 := 138) (JX.ic (n := 2) rfl dX12_meet_136) (JX.il (k := 3) rfl dX12_meet_137) dX12_meet_138) (JX.ic (n := 1) rfl dX12_meet_139) dX12_meet_140) dX12_meet_141) dX12_meet_142)) (JS.inc (n := 1) rfl (show 3 < 4 by decide) dX12_meet_143)) dX12_meet_146 rfl (Or.inl rfl) (Or.inl rfl)))) (JS.retI (pc1 := 153) (JX.getI (pc1 := 150) (c := 12) (k := 65) (i := 212) (JX.al (k := 0) rfl dX12_meet_149) cl12 (by decide) rfl fk12_212 dX12_meet_150) dX12_meet_153))))))))
def mX12_meet : MS := runM 4 (some (.int)) bX12_meet
theorem aX12_meet : MA yX12_meet cX12_meet 4 (some (.int)) 2 mX12_meet := MA.of (plainFor_of_name (by decide)) jX12_meet
theorem eX12_meet (a0 : Nat) (h : AH) : mX12_meet [.ref a0] h = (bX12_meet [.val (.ref a0), .unset, .unset, .unset] h).bind (finM (some (.int))) := rfl
