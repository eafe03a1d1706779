/-! ===== by program: mk20.py: methods ===== -/
/-! PieceStoreModel.windowBits -/
theorem dX12_windowBits_0 : decode cX12_windowBits 0 = .ok (.aload_n 0, 1) := by decide +kernel
theorem dX12_windowBits_1 : decode cX12_windowBits 1 = .ok (.iload_n 1, 1) := by decide +kernel
theorem dX12_windowBits_2 : decode cX12_windowBits 2 = .ok (.invokevirtual 539, 3) := by decide +kernel
theorem dX12_windowBits_5 : decode cX12_windowBits 5 = .ok (.iconst 0, 1) := by decide +kernel
theorem dX12_windowBits_6 : decode cX12_windowBits 6 = .ok (.istore_n 2, 1) := by decide +kernel
theorem dX12_windowBits_7 : decode cX12_windowBits 7 = .ok (.iconst 1, 1) := by decide +kernel
theorem dX12_windowBits_8 : decode cX12_windowBits 8 = .ok (.istore_n 3, 1) := by decide +kernel
theorem dX12_windowBits_9 : decode cX12_windowBits 9 = .ok (.iload_n 3, 1) := by decide +kernel
theorem dX12_windowBits_10 : decode cX12_windowBits 10 = .ok (.bipush 16, 2) := by decide +kernel
theorem dX12_windowBits_12 : decode cX12_windowBits 12 = .ok (.if_icmp .gt 119, 3) := by decide +kernel
theorem dX12_windowBits_15 : decode cX12_windowBits 15 = .ok (.aload_n 0, 1) := by decide +kernel
theorem dX12_windowBits_16 : decode cX12_windowBits 16 = .ok (.iload_n 3, 1) := by decide +kernel
theorem dX12_windowBits_17 : decode cX12_windowBits 17 = .ok (.invokevirtual 496, 3) := by decide +kernel
theorem dX12_windowBits_20 : decode cX12_windowBits 20 = .ok (.iconst 0, 1) := by decide +kernel
theorem dX12_windowBits_21 : decode cX12_windowBits 21 = .ok (.istore 4, 2) := by decide +kernel
theorem dX12_windowBits_23 : decode cX12_windowBits 23 = .ok (.iconst 0, 1) := by decide +kernel
theorem dX12_windowBits_24 : decode cX12_windowBits 24 = .ok (.istore 5, 2) := by decide +kernel
theorem dX12_windowBits_26 : decode cX12_windowBits 26 = .ok (.iload 5, 2) := by decide +kernel
theorem dX12_windowBits_28 : decode cX12_windowBits 28 = .ok (.bipush 40, 2) := by decide +kernel
theorem dX12_windowBits_30 : decode cX12_windowBits 30 = .ok (.if_icmp .ge 27, 3) := by decide +kernel
theorem dX12_windowBits_33 : decode cX12_windowBits 33 = .ok (.aload_n 0, 1) := by decide +kernel
theorem dX12_windowBits_34 : decode cX12_windowBits 34 = .ok (.getfield 221, 3) := by decide +kernel
theorem dX12_windowBits_37 : decode cX12_windowBits 37 = .ok (.bipush 40, 2) := by decide +kernel
theorem dX12_windowBits_39 : decode cX12_windowBits 39 = .ok (.iload_n 3, 1) := by decide +kernel
theorem dX12_windowBits_40 : decode cX12_windowBits 40 = .ok (.imul, 1) := by decide +kernel
theorem dX12_windowBits_41 : decode cX12_windowBits 41 = .ok (.iload 5, 2) := by decide +kernel
theorem dX12_windowBits_43 : decode cX12_windowBits 43 = .ok (.iadd, 1) := by decide +kernel
theorem dX12_windowBits_44 : decode cX12_windowBits 44 = .ok (.aload_n 0, 1) := by decide +kernel
theorem dX12_windowBits_45 : decode cX12_windowBits 45 = .ok (.iload 5, 2) := by decide +kernel
theorem dX12_windowBits_47 : decode cX12_windowBits 47 = .ok (.invokevirtual 429, 3) := by decide +kernel
theorem dX12_windowBits_50 : decode cX12_windowBits 50 = .ok (.iastore, 1) := by decide +kernel
theorem dX12_windowBits_51 : decode cX12_windowBits 51 = .ok (.iinc 5 1, 3) := by decide +kernel
theorem dX12_windowBits_54 : decode cX12_windowBits 54 = .ok (.goto (-28), 3) := by decide +kernel
theorem dX12_windowBits_57 : decode cX12_windowBits 57 = .ok (.iconst 0, 1) := by decide +kernel
theorem dX12_windowBits_58 : decode cX12_windowBits 58 = .ok (.istore 5, 2) := by decide +kernel
theorem dX12_windowBits_60 : decode cX12_windowBits 60 = .ok (.iload 5, 2) := by decide +kernel
theorem dX12_windowBits_62 : decode cX12_windowBits 62 = .ok (.aload_n 0, 1) := by decide +kernel
theorem dX12_windowBits_63 : decode cX12_windowBits 63 = .ok (.getfield 212, 3) := by decide +kernel
theorem dX12_windowBits_66 : decode cX12_windowBits 66 = .ok (.if_icmp .ge 40, 3) := by decide +kernel
theorem dX12_windowBits_69 : decode cX12_windowBits 69 = .ok (.iload 4, 2) := by decide +kernel
theorem dX12_windowBits_71 : decode cX12_windowBits 71 = .ok (.aload_n 0, 1) := by decide +kernel
theorem dX12_windowBits_72 : decode cX12_windowBits 72 = .ok (.aload_n 0, 1) := by decide +kernel
theorem dX12_windowBits_73 : decode cX12_windowBits 73 = .ok (.getfield 215, 3) := by decide +kernel
theorem dX12_windowBits_76 : decode cX12_windowBits 76 = .ok (.iload 5, 2) := by decide +kernel
theorem dX12_windowBits_78 : decode cX12_windowBits 78 = .ok (.iaload, 1) := by decide +kernel
theorem dX12_windowBits_79 : decode cX12_windowBits 79 = .ok (.invokevirtual 429, 3) := by decide +kernel
theorem dX12_windowBits_82 : decode cX12_windowBits 82 = .ok (.aload_n 0, 1) := by decide +kernel
theorem dX12_windowBits_83 : decode cX12_windowBits 83 = .ok (.getfield 218, 3) := by decide +kernel
theorem dX12_windowBits_86 : decode cX12_windowBits 86 = .ok (.iload 5, 2) := by decide +kernel
theorem dX12_windowBits_88 : decode cX12_windowBits 88 = .ok (.iaload, 1) := by decide +kernel
theorem dX12_windowBits_89 : decode cX12_windowBits 89 = .ok (.if_icmp .ne 7, 3) := by decide +kernel
theorem dX12_windowBits_92 : decode cX12_windowBits 92 = .ok (.iconst 1, 1) := by decide +kernel
theorem dX12_windowBits_93 : decode cX12_windowBits 93 = .ok (.goto 4, 3) := by decide +kernel
theorem dX12_windowBits_96 : decode cX12_windowBits 96 = .ok (.iconst 0, 1) := by decide +kernel
theorem dX12_windowBits_97 : decode cX12_windowBits 97 = .ok (.iadd, 1) := by decide +kernel
theorem dX12_windowBits_98 : decode cX12_windowBits 98 = .ok (.istore 4, 2) := by decide +kernel
theorem dX12_windowBits_100 : decode cX12_windowBits 100 = .ok (.iinc 5 1, 3) := by decide +kernel
theorem dX12_windowBits_103 : decode cX12_windowBits 103 = .ok (.goto (-43), 3) := by decide +kernel
theorem dX12_windowBits_106 : decode cX12_windowBits 106 = .ok (.iload_n 2, 1) := by decide +kernel
theorem dX12_windowBits_107 : decode cX12_windowBits 107 = .ok (.iload 4, 2) := by decide +kernel
theorem dX12_windowBits_109 : decode cX12_windowBits 109 = .ok (.aload_n 0, 1) := by decide +kernel
theorem dX12_windowBits_110 : decode cX12_windowBits 110 = .ok (.getfield 212, 3) := by decide +kernel
theorem dX12_windowBits_113 : decode cX12_windowBits 113 = .ok (.if_icmp .ne 9, 3) := by decide +kernel
theorem dX12_windowBits_116 : decode cX12_windowBits 116 = .ok (.iconst 1, 1) := by decide +kernel
theorem dX12_windowBits_117 : decode cX12_windowBits 117 = .ok (.iload_n 3, 1) := by decide +kernel
theorem dX12_windowBits_118 : decode cX12_windowBits 118 = .ok (.ishl, 1) := by decide +kernel
theorem dX12_windowBits_119 : decode cX12_windowBits 119 = .ok (.goto 4, 3) := by decide +kernel
theorem dX12_windowBits_122 : decode cX12_windowBits 122 = .ok (.iconst 0, 1) := by decide +kernel
theorem dX12_windowBits_123 : decode cX12_windowBits 123 = .ok (.ior, 1) := by decide +kernel
theorem dX12_windowBits_124 : decode cX12_windowBits 124 = .ok (.istore_n 2, 1) := by decide +kernel
theorem dX12_windowBits_125 : decode cX12_windowBits 125 = .ok (.iinc 3 1, 3) := by decide +kernel
theorem dX12_windowBits_128 : decode cX12_windowBits 128 = .ok (.goto (-119), 3) := by decide +kernel
theorem dX12_windowBits_131 : decode cX12_windowBits 131 = .ok (.iload_n 2, 1) := by decide +kernel
theorem dX12_windowBits_132 : decode cX12_windowBits 132 = .ok (.ireturn, 1) := by decide +kernel
abbrev MX12_windowBits : MI := (RX12, cX12_windowBits, 6, 6, false)
def lcX12_windowBits_1 : Ex Bool := (ltI (lvI 5) (ciI (iI 40)))
def lbX12_windowBits_1 : St := (forB (astI (getR 12 68 (lvR 0)) (addI (mulI (ciI (iI 40)) (lvI 3)) (lvI 5)) (calX decI (ckV 12 1) mX12_lengthAt (agC va_rf (lvR 0) (agC Value.int (lvI 5) agN)))) (incI 5 (iI 1)))
def lcX12_windowBits_2 : Ex Bool := (ltI (lvI 5) (getI 12 65 (lvR 0)))
def lbX12_windowBits_2 : St := (forB (lsI 4 (addI (lvI 4) (iteX (eqI (calX decI (ckV 12 1) mX12_lengthAt (agC va_rf (lvR 0) (agC Value.int (aldI 2 (getR 12 66 (lvR 0)) (lvI 5)) agN))) (aldI 2 (getR 12 67 (lvR 0)) (lvI 5))) (ciI (iI 1)) (ciI (iI 0))))) (incI 5 (iI 1)))
def lcX12_windowBits_3 : Ex Bool := (leI (lvI 3) (ciI (iI 16)))
def lbX12_windowBits_3 : St := (forB (scS 4 (seqS (calS (ckV 12 1) mX12_cutsBy (agC va_rf (lvR 0) (agC Value.int (lvI 3) agN))) (seqS (lsI 4 (ciI (iI 0))) (seqS (scS 5 (seqS (lsI 5 (ciI (iI 0))) (whileS lcX12_windowBits_1 lbX12_windowBits_1))) (seqS (scS 5 (seqS (lsI 5 (ciI (iI 0))) (whileS lcX12_windowBits_2 lbX12_windowBits_2))) (lsI 2 (orI (lvI 2) (iteX (eqI (lvI 4) (getI 12 65 (lvR 0))) (shlI (ciI (iI 1)) (lvI 3)) (ciI (iI 0)))))))))) (incI 3 (iI 1)))
def bX12_windowBits : St := (seqS (calS (ckV 12 1) mX12_takes (agC va_rf (lvR 0) (agC Value.int (lvI 1) agN))) (seqS (lsI 2 (ciI (iI 0))) (seqS (scS 3 (seqS (lsI 3 (ciI (iI 1))) (whileS lcX12_windowBits_3 lbX12_windowBits_3))) (retI (lvI 2)))))
theorem jX12_windowBits : JS MX12_windowBits 0 0 0 133 [] bX12_windowBits :=
  (JS.seq (pc1 := 5) (JS.call (pc1 := 2) (JA.r (JX.al (k := 0) rfl dX12_windowBits_0) (JA.i (JX.il (k := 1) rfl dX12_windowBits_1) JA.nil)) aX12_takes (RunK.V (i := 539) (c := 12) (n := 1) cl12 rfl (CN nX12_takes (by decide) (by decide)) gw1904 gw1906 gs122 dX12_windowBits_2)) (JS.seq (pc1 := 7) (JS.is (pc1 := 6) (k := 2) (JX.ic (n := 0) rfl dX12_windowBits_5) rfl (show 2 < 6 by decide) dX12_windowBits_6) (JS.seq (pc1 := 131) (JS.sc (JS.seq (pc1 := 9) (JS.is (pc1 := 8) (k := 3) (JX.ic (n := 1) rfl dX12_windowBits_7) rfl (show 3 < 6 by decide) dX12_windowBits_8) (JS.while (l := 131) (lb := 131) (pc1 := 15) (pc2 := 128) (pc3 := 131) (CJ.le_f (tgt := 131) (pc1 := 10) (pc2 := 12) (JX.il (k := 3) rfl dX12_windowBits_9) (JX.bp (n := 16) kb16 dX12_windowBits_10) dX12_windowBits_12 rfl) (JS.forb (pc1 := 125) (JS.sc (JS.seq (pc1 := 20) (JS.call (pc1 := 17) (JA.r (JX.al (k := 0) rfl dX12_windowBits_15) (JA.i (JX.il (k := 3) rfl dX12_windowBits_16) JA.nil)) aX12_cutsBy (RunK.V (i := 496) (c := 12) (n := 1) cl12 rfl (CN nX12_cutsBy (by decide) (by decide)) gw1718 gw1720 gs84 dX12_windowBits_17)) (JS.seq (pc1 := 23) (JS.is2 (pc1 := 21) (JX.ic (n := 0) rfl dX12_windowBits_20) (show 4 < 6 by decide) dX12_windowBits_21) (JS.seq (pc1 := 57) (JS.sc (JS.seq (pc1 := 26) (JS.is2 (pc1 := 24) (JX.ic (n := 0) rfl dX12_windowBits_23) (show 5 < 6 by decide) dX12_windowBits_24) (JS.while (l := 57) (lb := 57) (pc1 := 33) (pc2 := 54) (pc3 := 57) (CJ.lt_f (tgt := 57) (pc1 := 28) (pc2 := 30) (JX.il2 dX12_windowBits_26) (JX.bp (n := 40) kb40 dX12_windowBits_28) dX12_windowBits_30 rfl) (JS.forb (pc1 := 51) (JS.ia (pc1 := 37) (pc2 := 44) (pc3 := 50) (JX.getR (pc1 := 34) (c := 12) (k := 68) (i := 221) (JX.al (k := 0) rfl dX12_windowBits_33) cl12 (by decide) rfl fk12_221 dX12_windowBits_34) (JX.iadd (pc1 := 41) (pc2 := 43) (JX.imul (pc1 := 39) (pc2 := 40) (JX.bp (n := 40) kb40 dX12_windowBits_37) (JX.il (k := 3) rfl dX12_windowBits_39) dX12_windowBits_40) (JX.il2 dX12_windowBits_41) dX12_windowBits_43) (JX.call (pc1 := 47) decI_ok (JA.r (JX.al (k := 0) rfl dX12_windowBits_44) (JA.i (JX.il2 dX12_windowBits_45) JA.nil)) aX12_lengthAt (RunK.V (i := 429) (c := 12) (n := 1) cl12 rfl (CN nX12_lengthAt (by decide) (by decide)) gw1780 gw1782 gs96 dX12_windowBits_47) (by decide)) dX12_windowBits_50) (JS.inc (n := 1) rfl (show 5 < 6 by decide) dX12_windowBits_51)) dX12_windowBits_54 rfl (Or.inl rfl) (Or.inl rfl)))) (JS.seq (pc1 := 106) (JS.sc (JS.seq (pc1 := 60) (JS.is2 (pc1 := 58) (JX.ic (n := 0) rfl dX12_windowBits_57) (show 5 < 6 by decide) dX12_windowBits_58) (JS.while (l := 106) (lb := 106) (pc1 := 69) (pc2 := 103) (pc3 := 106) (CJ.lt_f (tgt := 106) (pc1 := 62) (pc2 := 66) (JX.il2 dX12_windowBits_60) (JX.getI (pc1 := 63) (c := 12) (k := 65) (i := 212) (JX.al (k := 0) rfl dX12_windowBits_62) cl12 (by decide) rfl fk12_212 dX12_windowBits_63) dX12_windowBits_66 rfl) (JS.forb (pc1 := 100) (JS.is2 (pc1 := 98) (JX.iadd (pc1 := 71) (pc2 := 97) (JX.il2 dX12_windowBits_69) (JX.ite (l := 96) (pc1 := 92) (pc2 := 93) (pc3 := 97) (lend := 97) (CJ.eq_f (tgt := 96) (pc1 := 82) (pc2 := 89) (JX.call (pc1 := 79) decI_ok (JA.r (JX.al (k := 0) rfl dX12_windowBits_71) (JA.i (JX.iald (pc1 := 76) (pc2 := 78) (JX.getR (pc1 := 73) (c := 12) (k := 66) (i := 215) (JX.al (k := 0) rfl dX12_windowBits_72) cl12 (by decide) rfl fk12_215 dX12_windowBits_73) (JX.il2 dX12_windowBits_76) dX12_windowBits_78) JA.nil)) aX12_lengthAt (RunK.V (i := 429) (c := 12) (n := 1) cl12 rfl (CN nX12_lengthAt (by decide) (by decide)) gw1780 gw1782 gs96 dX12_windowBits_79) (by decide)) (JX.iald (pc1 := 86) (pc2 := 88) (JX.getR (pc1 := 83) (c := 12) (k := 67) (i := 218) (JX.al (k := 0) rfl dX12_windowBits_82) cl12 (by decide) rfl fk12_218 dX12_windowBits_83) (JX.il2 dX12_windowBits_86) dX12_windowBits_88) dX12_windowBits_89 rfl) (JX.ic (n := 1) rfl dX12_windowBits_92) dX12_windowBits_93 rfl (JX.ic (n := 0) rfl dX12_windowBits_96) (Or.inl rfl)) dX12_windowBits_97) (show 4 < 6 by decide) dX12_windowBits_98) (JS.inc (n := 1) rfl (show 5 < 6 by decide) dX12_windowBits_100)) dX12_windowBits_103 rfl (Or.inl rfl) (Or.inl rfl)))) (JS.is (pc1 := 124) (k := 2) (JX.ior (pc1 := 107) (pc2 := 123) (JX.il (k := 2) rfl dX12_windowBits_106) (JX.ite (l := 122) (pc1 := 116) (pc2 := 119) (pc3 := 123) (lend := 123) (CJ.eq_f (tgt := 122) (pc1 := 109) (pc2 := 113) (JX.il2 dX12_windowBits_107) (JX.getI (pc1 := 110) (c := 12) (k := 65) (i := 212) (JX.al (k := 0) rfl dX12_windowBits_109) cl12 (by decide) rfl fk12_212 dX12_windowBits_110) dX12_windowBits_113 rfl) (JX.ishl (pc1 := 117) (pc2 := 118) (JX.ic (n := 1) rfl dX12_windowBits_116) (JX.il (k := 3) rfl dX12_windowBits_117) dX12_windowBits_118) dX12_windowBits_119 rfl (JX.ic (n := 0) rfl dX12_windowBits_122) (Or.inl rfl)) dX12_windowBits_123) rfl (show 2 < 6 by decide) dX12_windowBits_124)))))) (JS.inc (n := 1) rfl (show 3 < 6 by decide) dX12_windowBits_125)) dX12_windowBits_128 rfl (Or.inl rfl) (Or.inl rfl)))) (JS.retI (pc1 := 132) (JX.il (k := 2) rfl dX12_windowBits_131) dX12_windowBits_132))))
def mX12_windowBits : MS := runM 6 (some (.int)) bX12_windowBits
theorem aX12_windowBits : MA yX12_windowBits cX12_windowBits 6 (some (.int)) 6 mX12_windowBits := MA.of (plainFor_of_name (by decide)) jX12_windowBits
theorem eX12_windowBits (a0 : Nat) (a1 : Int32) (h : AH) : mX12_windowBits [.ref a0, .int a1] h = (bX12_windowBits [.val (.ref a0), .val (.int a1), .unset, .unset, .unset, .unset] h).bind (finM (some (.int))) := rfl
/-! PieceStoreModel.windows -/
theorem dX12_windows_0 : decode cX12_windows 0 = .ok (.aload_n 0, 1) := by decide +kernel
theorem dX12_windows_1 : decode cX12_windows 1 = .ok (.iload_n 1, 1) := by decide +kernel
theorem dX12_windows_2 : decode cX12_windows 2 = .ok (.invokevirtual 432, 3) := by decide +kernel
theorem dX12_windows_5 : decode cX12_windows 5 = .ok (.ifCond .eq 11, 3) := by decide +kernel
theorem dX12_windows_8 : decode cX12_windows 8 = .ok (.aload_n 0, 1) := by decide +kernel
theorem dX12_windows_9 : decode cX12_windows 9 = .ok (.iload_n 1, 1) := by decide +kernel
theorem dX12_windows_10 : decode cX12_windows 10 = .ok (.invokevirtual 574, 3) := by decide +kernel
theorem dX12_windows_13 : decode cX12_windows 13 = .ok (.goto 4, 3) := by decide +kernel
theorem dX12_windows_16 : decode cX12_windows 16 = .ok (.iconst (-1), 1) := by decide +kernel
theorem dX12_windows_17 : decode cX12_windows 17 = .ok (.ireturn, 1) := by decide +kernel
abbrev MX12_windows : MI := (RX12, cX12_windows, 2, 7, false)
def bX12_windows : St := (retI (iteX (ne0 (calX decI (ckV 12 1) mX12_isBackup (agC va_rf (lvR 0) (agC Value.int (lvI 1) agN)))) (calX decI (ckV 12 1) mX12_windowBits (agC va_rf (lvR 0) (agC Value.int (lvI 1) agN))) (ciI (iI (-1)))))
theorem jX12_windows : JS MX12_windows 0 0 0 18 [] bX12_windows :=
  (JS.retI (pc1 := 17) (JX.ite (l := 16) (pc1 := 8) (pc2 := 13) (pc3 := 17) (lend := 17) (CJ.ne0_f (tgt := 16) (pc1 := 5) (JX.call (pc1 := 2) decI_ok (JA.r (JX.al (k := 0) rfl dX12_windows_0) (JA.i (JX.il (k := 1) rfl dX12_windows_1) JA.nil)) aX12_isBackup (RunK.V (i := 432) (c := 12) (n := 1) cl12 rfl (CN nX12_isBackup (by decide) (by decide)) gw1710 gw1712 gs82 dX12_windows_2) (by decide)) dX12_windows_5 rfl) (JX.call (pc1 := 10) decI_ok (JA.r (JX.al (k := 0) rfl dX12_windows_8) (JA.i (JX.il (k := 1) rfl dX12_windows_9) JA.nil)) aX12_windowBits (RunK.V (i := 574) (c := 12) (n := 1) cl12 rfl (CN nX12_windowBits (by decide) (by decide)) gw1993 gw1995 gs133 dX12_windows_10) (by decide)) dX12_windows_13 rfl (JX.ic (n := (-1)) rfl dX12_windows_16) (Or.inl rfl)) dX12_windows_17)
def mX12_windows : MS := runM 2 (some (.int)) bX12_windows
theorem aX12_windows : MA yX12_windows cX12_windows 2 (some (.int)) 7 mX12_windows := MA.of (plainFor_of_name (by decide)) jX12_windows
theorem eX12_windows (a0 : Nat) (a1 : Int32) (h : AH) : mX12_windows [.ref a0, .int a1] h = (bX12_windows [.val (.ref a0), .val (.int a1)] h).bind (finM (some (.int))) := rfl
/-! PieceStoreModel.tells -/
theorem dX12_tells_0 : decode cX12_tells 0 = .ok (.aload_n 0, 1) := by decide +kernel
theorem dX12_tells_1 : decode cX12_tells 1 = .ok (.iload_n 1, 1) := by decide +kernel
theorem dX12_tells_2 : decode cX12_tells 2 = .ok (.invokevirtual 432, 3) := by decide +kernel
theorem dX12_tells_5 : decode cX12_tells 5 = .ok (.ifCond .eq 12, 3) := by decide +kernel
theorem dX12_tells_8 : decode cX12_tells 8 = .ok (.iload_n 2, 1) := by decide +kernel
theorem dX12_tells_9 : decode cX12_tells 9 = .ok (.iconst 0, 1) := by decide +kernel
theorem dX12_tells_10 : decode cX12_tells 10 = .ok (.iconst 1, 1) := by decide +kernel
theorem dX12_tells_11 : decode cX12_tells 11 = .ok (.invokestatic 313, 3) := by decide +kernel
theorem dX12_tells_14 : decode cX12_tells 14 = .ok (.ifCond .ne 5, 3) := by decide +kernel
theorem dX12_tells_17 : decode cX12_tells 17 = .ok (.iconst (-1), 1) := by decide +kernel
theorem dX12_tells_18 : decode cX12_tells 18 = .ok (.ireturn, 1) := by decide +kernel
theorem dX12_tells_19 : decode cX12_tells 19 = .ok (.aload_n 0, 1) := by decide +kernel
theorem dX12_tells_20 : decode cX12_tells 20 = .ok (.iload_n 1, 1) := by decide +kernel
theorem dX12_tells_21 : decode cX12_tells 21 = .ok (.invokevirtual 574, 3) := by decide +kernel
theorem dX12_tells_24 : decode cX12_tells 24 = .ok (.istore_n 3, 1) := by decide +kernel
theorem dX12_tells_25 : decode cX12_tells 25 = .ok (.iconst (-1), 1) := by decide +kernel
theorem dX12_tells_26 : decode cX12_tells 26 = .ok (.istore 4, 2) := by decide +kernel
theorem dX12_tells_28 : decode cX12_tells 28 = .ok (.ldc_w 548, 3) := by decide +kernel
theorem dX12_tells_31 : decode cX12_tells 31 = .ok (.istore 5, 2) := by decide +kernel
theorem dX12_tells_33 : decode cX12_tells 33 = .ok (.iconst 0, 1) := by decide +kernel
theorem dX12_tells_34 : decode cX12_tells 34 = .ok (.istore 6, 2) := by decide +kernel
theorem dX12_tells_36 : decode cX12_tells 36 = .ok (.iload 6, 2) := by decide +kernel
theorem dX12_tells_38 : decode cX12_tells 38 = .ok (.bipush 40, 2) := by decide +kernel
theorem dX12_tells_40 : decode cX12_tells 40 = .ok (.if_icmp .ge 139, 3) := by decide +kernel
theorem dX12_tells_43 : decode cX12_tells 43 = .ok (.iload_n 3, 1) := by decide +kernel
theorem dX12_tells_44 : decode cX12_tells 44 = .ok (.ifCond .eq 135, 3) := by decide +kernel
theorem dX12_tells_47 : decode cX12_tells 47 = .ok (.iconst 0, 1) := by decide +kernel
theorem dX12_tells_48 : decode cX12_tells 48 = .ok (.istore 7, 2) := by decide +kernel
theorem dX12_tells_50 : decode cX12_tells 50 = .ok (.iconst 1, 1) := by decide +kernel
theorem dX12_tells_51 : decode cX12_tells 51 = .ok (.istore 8, 2) := by decide +kernel
theorem dX12_tells_53 : decode cX12_tells 53 = .ok (.iload 8, 2) := by decide +kernel
theorem dX12_tells_55 : decode cX12_tells 55 = .ok (.bipush 16, 2) := by decide +kernel
theorem dX12_tells_57 : decode cX12_tells 57 = .ok (.if_icmp .gt 98, 3) := by decide +kernel
theorem dX12_tells_60 : decode cX12_tells 60 = .ok (.iconst 0, 1) := by decide +kernel
theorem dX12_tells_61 : decode cX12_tells 61 = .ok (.istore 9, 2) := by decide +kernel
theorem dX12_tells_63 : decode cX12_tells 63 = .ok (.iconst 1, 1) := by decide +kernel
theorem dX12_tells_64 : decode cX12_tells 64 = .ok (.istore 10, 2) := by decide +kernel
theorem dX12_tells_66 : decode cX12_tells 66 = .ok (.iload 10, 2) := by decide +kernel
theorem dX12_tells_68 : decode cX12_tells 68 = .ok (.bipush 16, 2) := by decide +kernel
theorem dX12_tells_70 : decode cX12_tells 70 = .ok (.if_icmp .gt 63, 3) := by decide +kernel
theorem dX12_tells_73 : decode cX12_tells 73 = .ok (.iload 9, 2) := by decide +kernel
theorem dX12_tells_75 : decode cX12_tells 75 = .ok (.iload_n 3, 1) := by decide +kernel
theorem dX12_tells_76 : decode cX12_tells 76 = .ok (.iload 8, 2) := by decide +kernel
theorem dX12_tells_78 : decode cX12_tells 78 = .ok (.ishr, 1) := by decide +kernel
theorem dX12_tells_79 : decode cX12_tells 79 = .ok (.iload_n 3, 1) := by decide +kernel
theorem dX12_tells_80 : decode cX12_tells 80 = .ok (.iload 10, 2) := by decide +kernel
theorem dX12_tells_82 : decode cX12_tells 82 = .ok (.ishr, 1) := by decide +kernel
theorem dX12_tells_83 : decode cX12_tells 83 = .ok (.iand, 1) := by decide +kernel
theorem dX12_tells_84 : decode cX12_tells 84 = .ok (.iconst 1, 1) := by decide +kernel
theorem dX12_tells_85 : decode cX12_tells 85 = .ok (.iand, 1) := by decide +kernel
theorem dX12_tells_86 : decode cX12_tells 86 = .ok (.iconst 1, 1) := by decide +kernel
theorem dX12_tells_87 : decode cX12_tells 87 = .ok (.if_icmp .ne 36, 3) := by decide +kernel
theorem dX12_tells_90 : decode cX12_tells 90 = .ok (.aload_n 0, 1) := by decide +kernel
theorem dX12_tells_91 : decode cX12_tells 91 = .ok (.getfield 221, 3) := by decide +kernel
theorem dX12_tells_94 : decode cX12_tells 94 = .ok (.bipush 40, 2) := by decide +kernel
theorem dX12_tells_96 : decode cX12_tells 96 = .ok (.iload 8, 2) := by decide +kernel
theorem dX12_tells_98 : decode cX12_tells 98 = .ok (.imul, 1) := by decide +kernel
theorem dX12_tells_99 : decode cX12_tells 99 = .ok (.iload 6, 2) := by decide +kernel
theorem dX12_tells_101 : decode cX12_tells 101 = .ok (.iadd, 1) := by decide +kernel
theorem dX12_tells_102 : decode cX12_tells 102 = .ok (.iaload, 1) := by decide +kernel
theorem dX12_tells_103 : decode cX12_tells 103 = .ok (.aload_n 0, 1) := by decide +kernel
theorem dX12_tells_104 : decode cX12_tells 104 = .ok (.getfield 221, 3) := by decide +kernel
theorem dX12_tells_107 : decode cX12_tells 107 = .ok (.bipush 40, 2) := by decide +kernel
theorem dX12_tells_109 : decode cX12_tells 109 = .ok (.iload 10, 2) := by decide +kernel
theorem dX12_tells_111 : decode cX12_tells 111 = .ok (.imul, 1) := by decide +kernel
theorem dX12_tells_112 : decode cX12_tells 112 = .ok (.iload 6, 2) := by decide +kernel
theorem dX12_tells_114 : decode cX12_tells 114 = .ok (.iadd, 1) := by decide +kernel
theorem dX12_tells_115 : decode cX12_tells 115 = .ok (.iaload, 1) := by decide +kernel
theorem dX12_tells_116 : decode cX12_tells 116 = .ok (.if_icmp .ne 7, 3) := by decide +kernel
theorem dX12_tells_119 : decode cX12_tells 119 = .ok (.iconst 1, 1) := by decide +kernel
theorem dX12_tells_120 : decode cX12_tells 120 = .ok (.goto 4, 3) := by decide +kernel
theorem dX12_tells_123 : decode cX12_tells 123 = .ok (.iconst 0, 1) := by decide +kernel
theorem dX12_tells_124 : decode cX12_tells 124 = .ok (.iadd, 1) := by decide +kernel
theorem dX12_tells_125 : decode cX12_tells 125 = .ok (.istore 9, 2) := by decide +kernel
theorem dX12_tells_127 : decode cX12_tells 127 = .ok (.iinc 10 1, 3) := by decide +kernel
theorem dX12_tells_130 : decode cX12_tells 130 = .ok (.goto (-64), 3) := by decide +kernel
theorem dX12_tells_133 : decode cX12_tells 133 = .ok (.iload 9, 2) := by decide +kernel
theorem dX12_tells_135 : decode cX12_tells 135 = .ok (.iload 7, 2) := by decide +kernel
theorem dX12_tells_137 : decode cX12_tells 137 = .ok (.if_icmp .le 8, 3) := by decide +kernel
theorem dX12_tells_140 : decode cX12_tells 140 = .ok (.iload 9, 2) := by decide +kernel
theorem dX12_tells_142 : decode cX12_tells 142 = .ok (.goto 5, 3) := by decide +kernel
theorem dX12_tells_145 : decode cX12_tells 145 = .ok (.iload 7, 2) := by decide +kernel
theorem dX12_tells_147 : decode cX12_tells 147 = .ok (.istore 7, 2) := by decide +kernel
theorem dX12_tells_149 : decode cX12_tells 149 = .ok (.iinc 8 1, 3) := by decide +kernel
theorem dX12_tells_152 : decode cX12_tells 152 = .ok (.goto (-99), 3) := by decide +kernel
theorem dX12_tells_155 : decode cX12_tells 155 = .ok (.iload 7, 2) := by decide +kernel
theorem dX12_tells_157 : decode cX12_tells 157 = .ok (.iload 5, 2) := by decide +kernel
theorem dX12_tells_159 : decode cX12_tells 159 = .ok (.if_icmp .lt 6, 3) := by decide +kernel
theorem dX12_tells_162 : decode cX12_tells 162 = .ok (.goto 11, 3) := by decide +kernel
theorem dX12_tells_165 : decode cX12_tells 165 = .ok (.iload 7, 2) := by decide +kernel
theorem dX12_tells_167 : decode cX12_tells 167 = .ok (.istore 5, 2) := by decide +kernel
theorem dX12_tells_169 : decode cX12_tells 169 = .ok (.iload 6, 2) := by decide +kernel
theorem dX12_tells_171 : decode cX12_tells 171 = .ok (.istore 4, 2) := by decide +kernel
theorem dX12_tells_173 : decode cX12_tells 173 = .ok (.iinc 6 1, 3) := by decide +kernel
theorem dX12_tells_176 : decode cX12_tells 176 = .ok (.goto (-140), 3) := by decide +kernel
theorem dX12_tells_179 : decode cX12_tells 179 = .ok (.iload 4, 2) := by decide +kernel
theorem dX12_tells_181 : decode cX12_tells 181 = .ok (.iconst (-1), 1) := by decide +kernel
theorem dX12_tells_182 : decode cX12_tells 182 = .ok (.if_icmp .eq 7, 3) := by decide +kernel
theorem dX12_tells_185 : decode cX12_tells 185 = .ok (.iload_n 2, 1) := by decide +kernel
theorem dX12_tells_186 : decode cX12_tells 186 = .ok (.ifCond .ne 8, 3) := by decide +kernel
theorem dX12_tells_189 : decode cX12_tells 189 = .ok (.iload 4, 2) := by decide +kernel
theorem dX12_tells_191 : decode cX12_tells 191 = .ok (.goto 5, 3) := by decide +kernel
theorem dX12_tells_194 : decode cX12_tells 194 = .ok (.iload 5, 2) := by decide +kernel
theorem dX12_tells_196 : decode cX12_tells 196 = .ok (.ireturn, 1) := by decide +kernel
abbrev MX12_tells : MI := (RX12, cX12_tells, 11, 7, false)
def lcX12_tells_1 : Ex Bool := (leI (lvI 10) (ciI (iI 16)))
def lbX12_tells_1 : St := (forB (lsI 9 (addI (lvI 9) (iteX (andX (eqI (andI (andI (shrI (lvI 3) (lvI 8)) (shrI (lvI 3) (lvI 10))) (ciI (iI 1))) (ciI (iI 1))) (eqI (aldI 2 (getR 12 68 (lvR 0)) (addI (mulI (ciI (iI 40)) (lvI 8)) (lvI 6))) (aldI 2 (getR 12 68 (lvR 0)) (addI (mulI (ciI (iI 40)) (lvI 10)) (lvI 6))))) (ciI (iI 1)) (ciI (iI 0))))) (incI 10 (iI 1)))
def lcX12_tells_2 : Ex Bool := (leI (lvI 8) (ciI (iI 16)))
def lbX12_tells_2 : St := (forB (scS 9 (seqS (lsI 9 (ciI (iI 0))) (seqS (scS 10 (seqS (lsI 10 (ciI (iI 1))) (whileS lcX12_tells_1 lbX12_tells_1))) (lsI 7 (iteX (gtI (lvI 9) (lvI 7)) (lvI 9) (lvI 7)))))) (incI 8 (iI 1)))
def lcX12_tells_3 : Ex Bool := (andX (ltI (lvI 6) (ciI (iI 40))) (ne0 (lvI 3)))
def lbX12_tells_3 : St := (forB (scS 7 (seqS (lsI 7 (ciI (iI 0))) (seqS (scS 8 (seqS (lsI 8 (ciI (iI 1))) (whileS lcX12_tells_2 lbX12_tells_2))) (seqS (ifS (geI (lvI 7) (lvI 5)) contS) (seqS (lsI 5 (lvI 7)) (lsI 4 (lvI 6))))))) (incI 6 (iI 1)))
def bX12_tells : St := (seqS (ifS (orX (notX (ne0 (calX decI (ckV 12 1) mX12_isBackup (agC va_rf (lvR 0) (agC Value.int (lvI 1) agN))))) (notX (ne0 (calX decI (ckS 3) mX12_is (agC Value.int (lvI 2) (agC Value.int (ciI (iI 0)) (agC Value.int (ciI (iI 1)) agN))))))) (retI (ciI (iI (-1))))) (seqS (lsI 3 (calX decI (ckV 12 1) mX12_windowBits (agC va_rf (lvR 0) (agC Value.int (lvI 1) agN)))) (seqS (lsI 4 (ciI (iI (-1)))) (seqS (lsI 5 (ciI (iI 100000000))) (seqS (scS 6 (seqS (lsI 6 (ciI (iI 0))) (whileS lcX12_tells_3 lbX12_tells_3))) (retI (iteX (orX (eqI (lvI 4) (ciI (iI (-1)))) (eq0 (lvI 2))) (lvI 4) (lvI 5))))))))
theorem jX12_tells : JS MX12_tells 0 0 0 197 [] bX12_tells :=
  (JS.seq (pc1 := 19) (JS.iff (l := 19) (pc1 := 17) (CJ.or_f (l := 17) (pc1 := 8) (CJ.not_t (CJ.ne0_f (tgt := 17) (pc1 := 5) (JX.call (pc1 := 2) decI_ok (JA.r (JX.al (k := 0) rfl dX12_tells_0) (JA.i (JX.il (k := 1) rfl dX12_tells_1) JA.nil)) aX12_isBackup (RunK.V (i := 432) (c := 12) (n := 1) cl12 rfl (CN nX12_isBackup (by decide) (by decide)) gw1710 gw1712 gs82 dX12_tells_2) (by decide)) dX12_tells_5 rfl)) (CJ.not_f (CJ.ne0_t (tgt := 19) (pc1 := 14) (JX.call (pc1 := 11) decI_ok (JA.i (JX.il (k := 2) rfl dX12_tells_8) (JA.i (JX.ic (n := 0) rfl dX12_tells_9) (JA.i (JX.ic (n := 1) rfl dX12_tells_10) JA.nil))) aX12_is (RunK.S (i := 313) (n := 3) (CN nX12_is (by decide) (by decide)) gw1589 gw1590 dX12_tells_11) (by decide)) dX12_tells_14 rfl)) (Or.inl rfl)) (JS.retI (pc1 := 18) (JX.ic (n := (-1)) rfl dX12_tells_17) dX12_tells_18) (Or.inl rfl)) (JS.seq (pc1 := 25) (JS.is (pc1 := 24) (k := 3) (JX.call (pc1 := 21) decI_ok (JA.r (JX.al (k := 0) rfl dX12_tells_19) (JA.i (JX.il (k := 1) rfl dX12_tells_20) JA.nil)) aX12_windowBits (RunK.V (i := 574) (c := 12) (n := 1) cl12 rfl (CN nX12_windowBits (by decide) (by decide)) gw1993 gw1995 gs133 dX12_tells_21) (by decide)) rfl (show 3 < 11 by decide) dX12_tells_24) (JS.seq (pc1 := 28) (JS.is2 (pc1 := 26) (JX.ic (n := (-1)) rfl dX12_tells_25) (show 4 < 11 by decide) dX12_tells_26) (JS.seq (pc1 := 33) (JS.is2 (pc1 := 31) (JX.ldcw (i := 548) (by decide) gw1944 dX12_tells_28) (show 5 < 11 by decide) dX12_tells_31) (JS.seq (pc1 := 179) (JS.sc (JS.seq (pc1 := 36) (JS.is2 (pc1 := 34) (JX.ic (n := 0) rfl dX12_tells_33) (show 6 < 11 by decide) dX12_tells_34) (JS.while (l := 179) (lb := 179) (pc1 := 47) (pc2 := 176) (pc3 := 179) (CJ.and_f (pc1 := 43) (CJ.lt_f (tgt := 179) (pc1 := 38) (pc2 := 40) (JX.il2 dX12_tells_36) (JX.bp (n := 40) kb40 dX12_tells_38) dX12_tells_40 rfl) (CJ.ne0_f (tgt := 179) (pc1 := 44) (JX.il (k := 3) rfl dX12_tells_43) dX12_tells_44 rfl)) (JS.forb (pc1 := 173) (JS.sc (JS.seq (pc1 := 50) (JS.is2 (pc1 := 48) (JX.ic (n := 0) rfl dX12_tells_47) (show 7 < 11 by decide) dX12_tells_48) (JS.seq (pc1 := 155) (JS.sc (JS.seq (pc1 := 53) (JS.is2 (pc1 := 51) (JX.ic (n := 1) rfl dX12_tells_50) (show 8 < 11 by decide) dX12_tells_51) (JS.while (l := 155) (lb := 155) (pc1 := 60) (pc2 := 152) (pc3 := 155) (CJ.le_f (tgt := 155) (pc1 := 55) (pc2 := 57) (JX.il2 dX12_tells_53) (JX.bp (n := 16) kb16 dX12_tells_55) dX12_tells_57 rfl) (JS.forb (pc1 := 149) (JS.sc (JS.seq (pc1 := 63) (JS.is2 (pc1 := 61) (JX.ic (n := 0) rfl dX12_tells_60) (show 9 < 11 by decide) dX12_tells_61) (JS.seq (pc1 := 133) (JS.sc (JS.seq (pc1 := 66) (JS.is2 (pc1 := 64) (JX.ic (n := 1) rfl dX12_tells_63) (show 10 < 11 by decide) dX12_tells_64) (JS.while (l := 133) (lb := 133) (pc1 := 73) (pc2 := 130) (pc3 := 133) (CJ.le_f (tgt := 133) (pc1 := 68) (pc2 := 70) (JX.il2 dX12_tells_66) (JX.bp (n := 16) kb16 dX12_tells_68) dX12_tells_70 rfl) (JS.forb (pc1 := 127) (JS.is2 (pc1 := 125) (JX.iadd (pc1 := 75) (pc2 := 124) (JX.il2 dX12_tells_73) (JX.ite (l := 123) (pc1 := 119) (pc2 := 120) (pc3 := 124) (lend := 124) (CJ.and_f (pc1 := 90) (CJ.eq_f (tgt := 123) (pc1 := 86) (pc2 := 87) (JX.iand (pc1 := 84) (pc2 := 85) (JX.iand (pc1 := 79) (pc2 := 83) (JX.ishr (pc1 := 76) (pc2 := 78) (JX.il (k := 3) rfl dX12_tells_75) (JX.il2 dX12_tells_76) dX12_tells_78) (JX.ishr (pc1 := 80) (pc2 := 82) (JX.il (k := 3) rfl dX12_tells_79) (JX.il2 dX12_tells_80) dX12_tells_82) dX12_tells_83) (JX.ic (n := 1) rfl dX12_tells_84) dX12_tells_85) (JX.ic (n := 1) rfl dX12_tells_86) dX12_tells_87 rfl) (CJ.eq_f (tgt := 123) (pc1 := 103) (pc2 := 116) (JX.iald (pc1 := 94) (pc2 := 102) (JX.getR (pc1 := 91) (c := 12) (k := 68) (i := 221) (JX.al (k := 0) rfl dX12_tells_90) cl12 (by decide) rfl fk12_221 dX12_tells_91) (JX.iadd (pc1 := 99) (pc2 := 101) (JX.imul (pc1 := 96) (pc2 := 98) (JX.bp (n := 40) kb40 dX12_tells_94) (JX.il2 dX12_tells_96) dX12_tells_98) (JX.il2 dX12_tells_99) dX12_tells_101) dX12_tells_102) (JX.iald (pc1 := 107) (pc2 := 115) (JX.getR (pc1 := 104) (c := 12) (k := 68) (i := 221) (JX.al (k := 0) rfl dX12_tells_103) cl12 (by decide) rfl fk12_221 dX12_tells_104) (JX.iadd (pc1 := 112) (pc2 := 114) (JX.imul (pc1 := 109) (pc2 := 111) (JX.bp (n := 40) kb40 dX12_tells_107) (JX.il2 dX12_tells_109) dX12_tells_111) (JX.il2 dX12_tells_112) dX12_tells_114) dX12_tells_115) dX12_tells_116 rfl)) (JX.ic (n := 1) rfl dX12_tells_119) dX12_tells_120 rfl (JX.ic (n := 0) rfl dX12_tells_123) (Or.inl rfl)) dX12_tells_124) (show 9 < 11 by decide) dX12_tells_125) (JS.inc (n := 1) rfl (show 10 < 11 by decide) dX12_tells_127)) dX12_tells_130 rfl (Or.inl rfl) (Or.inl rfl)))) (JS.is2 (pc1 := 147) (JX.ite (l := 145) (pc1 := 140) (pc2 := 142) (pc3 := 147) (lend := 147) (CJ.gt_f (tgt := 145) (pc1 := 135) (pc2 := 137) (JX.il2 dX12_tells_133) (JX.il2 dX12_tells_135) dX12_tells_137 rfl) (JX.il2 dX12_tells_140) dX12_tells_142 rfl (JX.il2 dX12_tells_145) (Or.inl rfl)) (show 7 < 11 by decide) dX12_tells_147)))) (JS.inc (n := 1) rfl (show 8 < 11 by decide) dX12_tells_149)) dX12_tells_152 rfl (Or.inl rfl) (Or.inl rfl)))) (JS.seq (pc1 := 165) (JS.ifc (l := 165) (pc1 := 162) (CJ.ge_f (tgt := 165) (pc1 := 157) (pc2 := 159) (JX.il2 dX12_tells_155) (JX.il2 dX12_tells_157) dX12_tells_159 rfl) dX12_tells_162 rfl (Or.inl rfl)) (JS.seq (pc1 := 169) (JS.is2 (pc1 := 167) (JX.il2 dX12_tells_165) (show 5 < 11 by decide) dX12_tells_167) (JS.is2 (pc1 := 171) (JX.il2 dX12_tells_169) (show 4 < 11 by decide) dX12_tells_171)))))) (JS.inc (n := 1) rfl (show 6 < 11 by decide) dX12_tells_173)) dX12_tells_176 rfl (Or.inl rfl) (Or.inl rfl)))) (JS.retI (pc1 := 196) (JX.ite (l := 194) (pc1 := 189) (pc2 := 191) (pc3 := 196) (lend := 196) (CJ.or_f (l := 189) (pc1 := 185) (CJ.eq_t (tgt := 189) (pc1 := 181) (pc2 := 182) (JX.il2 dX12_tells_179) (JX.ic (n := (-1)) rfl dX12_tells_181) dX12_tells_182 rfl) (CJ.eq0_f (tgt := 194) (pc1 := 186) (JX.il (k := 2) rfl dX12_tells_185) dX12_tells_186 rfl) (Or.inl rfl)) (JX.il2 dX12_tells_189) dX12_tells_191 rfl (JX.il2 dX12_tells_194) (Or.inl rfl)) dX12_tells_196))))))
def mX12_tells : MS := runM 11 (some (.int)) bX12_tells
theorem aX12_tells : MA yX12_tells cX12_tells 11 (some (.int)) 7 mX12_tells := MA.of (plainFor_of_name (by decide)) jX12_tells
theorem eX12_tells (a0 : Nat) (a1 : Int32) (a2 : Int32) (h : AH) : mX12_tells [.ref a0, .int a1, .int a2] h = (bX12_tells [.val (.ref a0), .val (.int a1), .val (.int a2), .unset, .unset, .unset, .unset, .unset, .unset, .unset, .unset] h).bind (finM (some (.int))) := rfl
/-! PieceStoreModel.forget -/
theorem dX12_forget_0 : decode cX12_forget 0 = .ok (.aload_n 0, 1) := by decide +kernel
theorem dX12_forget_1 : decode cX12_forget 1 = .ok (.iload_n 1, 1) := by decide +kernel
theorem dX12_forget_2 : decode cX12_forget 2 = .ok (.invokevirtual 432, 3) := by decide +kernel
theorem dX12_forget_5 : decode cX12_forget 5 = .ok (.ifCond .ne 17, 3) := by decide +kernel
theorem dX12_forget_8 : decode cX12_forget 8 = .ok (.aload_n 0, 1) := by decide +kernel
theorem dX12_forget_9 : decode cX12_forget 9 = .ok (.iconst 3, 1) := by decide +kernel
theorem dX12_forget_10 : decode cX12_forget 10 = .ok (.invokevirtual 227, 3) := by decide +kernel
theorem dX12_forget_13 : decode cX12_forget 13 = .ok (.ifCond .lt 7, 3) := by decide +kernel
theorem dX12_forget_16 : decode cX12_forget 16 = .ok (.iconst 1, 1) := by decide +kernel
theorem dX12_forget_17 : decode cX12_forget 17 = .ok (.goto 4, 3) := by decide +kernel
theorem dX12_forget_20 : decode cX12_forget 20 = .ok (.iconst 0, 1) := by decide +kernel
theorem dX12_forget_21 : decode cX12_forget 21 = .ok (.ireturn, 1) := by decide +kernel
theorem dX12_forget_22 : decode cX12_forget 22 = .ok (.aload_n 0, 1) := by decide +kernel
theorem dX12_forget_23 : decode cX12_forget 23 = .ok (.invokevirtual 503, 3) := by decide +kernel
theorem dX12_forget_26 : decode cX12_forget 26 = .ok (.aload_n 0, 1) := by decide +kernel
theorem dX12_forget_27 : decode cX12_forget 27 = .ok (.bipush 10, 2) := by decide +kernel
theorem dX12_forget_29 : decode cX12_forget 29 = .ok (.iconst 4, 1) := by decide +kernel
theorem dX12_forget_30 : decode cX12_forget 30 = .ok (.iload_n 1, 1) := by decide +kernel
theorem dX12_forget_31 : decode cX12_forget 31 = .ok (.imul, 1) := by decide +kernel
theorem dX12_forget_32 : decode cX12_forget 32 = .ok (.iadd, 1) := by decide +kernel
theorem dX12_forget_33 : decode cX12_forget 33 = .ok (.iconst 0, 1) := by decide +kernel
theorem dX12_forget_34 : decode cX12_forget 34 = .ok (.invokevirtual 450, 3) := by decide +kernel
theorem dX12_forget_37 : decode cX12_forget 37 = .ok (.iconst 1, 1) := by decide +kernel
theorem dX12_forget_38 : decode cX12_forget 38 = .ok (.ireturn, 1) := by decide +kernel
abbrev MX12_forget : MI := (RX12, cX12_forget, 2, 3, false)
def bX12_forget : St := (seqS (ifS (notX (ne0 (calX decI (ckV 12 1) mX12_isBackup (agC va_rf (lvR 0) (agC Value.int (lvI 1) agN))))) (retI (iteX (ge0 (calX decI (ckV 12 1) mX12_refuses (agC va_rf (lvR 0) (agC Value.int (ciI (iI 3)) agN)))) (ciI (iI 1)) (ciI (iI 0))))) (seqS (calS (ckV 12 0) mX12_keeps (agC va_rf (lvR 0) agN)) (seqS (calS (ckV 12 2) mX12_puts (agC va_rf (lvR 0) (agC Value.int (addI (ciI (iI 10)) (mulI (ciI (iI 4)) (lvI 1))) (agC Value.int (ciI (iI 0)) agN)))) (retI (ciI (iI 1))))))
theorem jX12_forget : JS MX12_forget 0 0 0 39 [] bX12_forget :=
  (JS.seq (pc1 := 22) (JS.iff (l := 22) (pc1 := 8) (CJ.not_f (CJ.ne0_t (tgt := 22) (pc1 := 5) (JX.call (pc1 := 2) decI_ok (JA.r (JX.al (k := 0) rfl dX12_forget_0) (JA.i (JX.il (k := 1) rfl dX12_forget_1) JA.nil)) aX12_isBackup (RunK.V (i := 432) (c := 12) (n := 1) cl12 rfl (CN nX12_isBackup (by decide) (by decide)) gw1710 gw1712 gs82 dX12_forget_2) (by decide)) dX12_forget_5 rfl)) (JS.retI (pc1 := 21) (JX.ite (l := 20) (pc1 := 16) (pc2 := 17) (pc3 := 21) (lend := 21) (CJ.ge0_f (tgt := 20) (pc1 := 13) (JX.call (pc1 := 10) decI_ok (JA.r (JX.al (k := 0) rfl dX12_forget_8) (JA.i (JX.ic (n := 3) rfl dX12_forget_9) JA.nil)) aX12_refuses (RunK.V (i := 227) (c := 12) (n := 1) cl12 rfl (CN nX12_refuses (by decide) (by decide)) gw1530 gw1532 gs54 dX12_forget_10) (by decide)) dX12_forget_13 rfl) (JX.ic (n := 1) rfl dX12_forget_16) dX12_forget_17 rfl (JX.ic (n := 0) rfl dX12_forget_20) (Or.inl rfl)) dX12_forget_21) (Or.inl rfl)) (JS.seq (pc1 := 26) (JS.call (pc1 := 23) (JA.r (JX.al (k := 0) rfl dX12_forget_22) JA.nil) aX12_keeps (RunK.V (i := 503) (c := 12) (n := 0) cl12 rfl (CN nX12_keeps (by decide) (by decide)) gw1757 gw1759 gs91 dX12_forget_23)) (JS.seq (pc1 := 37) (JS.call (pc1 := 34) (JA.r (JX.al (k := 0) rfl dX12_forget_26) (JA.i (JX.iadd (pc1 := 29) (pc2 := 32) (JX.bp (n := 10) kb10 dX12_forget_27) (JX.imul (pc1 := 30) (pc2 := 31) (JX.ic (n := 4) rfl dX12_forget_29) (JX.il (k := 1) rfl dX12_forget_30) dX12_forget_31) dX12_forget_32) (JA.i (JX.ic (n := 0) rfl dX12_forget_33) JA.nil))) aX12_puts (RunK.V (i := 450) (c := 12) (n := 2) cl12 rfl (CN nX12_puts (by decide) (by decide)) gw1816 gw1818 gs105 dX12_forget_34)) (JS.retI (pc1 := 38) (JX.ic (n := 1) rfl dX12_forget_37) dX12_forget_38))))
def mX12_forget : MS := runM 2 (some (.boolean)) bX12_forget
theorem aX12_forget : MA yX12_forget cX12_forget 2 (some (.boolean)) 3 mX12_forget := MA.of (plainFor_of_name (by decide)) jX12_forget
theorem eX12_forget (a0 : Nat) (a1 : Int32) (h : AH) : mX12_forget [.ref a0, .int a1] h = (bX12_forget [.val (.ref a0), .val (.int a1)] h).bind (finM (some (.boolean))) := rfl
/-! PieceStoreModel.days -/
theorem dX12_days_0 : decode cX12_days 0 = .ok (.aload_n 0, 1) := by decide +kernel
theorem dX12_days_1 : decode cX12_days 1 = .ok (.iload_n 1, 1) := by decide +kernel
theorem dX12_days_2 : decode cX12_days 2 = .ok (.iconst 1, 1) := by decide +kernel
theorem dX12_days_3 : decode cX12_days 3 = .ok (.bipush 40, 2) := by decide +kernel
theorem dX12_days_5 : decode cX12_days 5 = .ok (.invokevirtual 559, 3) := by decide +kernel
theorem dX12_days_8 : decode cX12_days 8 = .ok (.ifCond .ne 9, 3) := by decide +kernel
theorem dX12_days_11 : decode cX12_days 11 = .ok (.aload_n 0, 1) := by decide +kernel
theorem dX12_days_12 : decode cX12_days 12 = .ok (.iconst 2, 1) := by decide +kernel
theorem dX12_days_13 : decode cX12_days 13 = .ok (.invokevirtual 227, 3) := by decide +kernel
theorem dX12_days_16 : decode cX12_days 16 = .ok (.ireturn, 1) := by decide +kernel
theorem dX12_days_17 : decode cX12_days 17 = .ok (.aload_n 0, 1) := by decide +kernel
theorem dX12_days_18 : decode cX12_days 18 = .ok (.invokevirtual 503, 3) := by decide +kernel
theorem dX12_days_21 : decode cX12_days 21 = .ok (.iconst 0, 1) := by decide +kernel
theorem dX12_days_22 : decode cX12_days 22 = .ok (.istore_n 2, 1) := by decide +kernel
theorem dX12_days_23 : decode cX12_days 23 = .ok (.iconst 0, 1) := by decide +kernel
theorem dX12_days_24 : decode cX12_days 24 = .ok (.istore_n 3, 1) := by decide +kernel
theorem dX12_days_25 : decode cX12_days 25 = .ok (.iload_n 3, 1) := by decide +kernel
theorem dX12_days_26 : decode cX12_days 26 = .ok (.iload_n 1, 1) := by decide +kernel
theorem dX12_days_27 : decode cX12_days 27 = .ok (.if_icmp .ge 16, 3) := by decide +kernel
theorem dX12_days_30 : decode cX12_days 30 = .ok (.iload_n 2, 1) := by decide +kernel
theorem dX12_days_31 : decode cX12_days 31 = .ok (.aload_n 0, 1) := by decide +kernel
theorem dX12_days_32 : decode cX12_days 32 = .ok (.invokevirtual 562, 3) := by decide +kernel
theorem dX12_days_35 : decode cX12_days 35 = .ok (.iadd, 1) := by decide +kernel
theorem dX12_days_36 : decode cX12_days 36 = .ok (.istore_n 2, 1) := by decide +kernel
theorem dX12_days_37 : decode cX12_days 37 = .ok (.iinc 3 1, 3) := by decide +kernel
theorem dX12_days_40 : decode cX12_days 40 = .ok (.goto (-15), 3) := by decide +kernel
theorem dX12_days_43 : decode cX12_days 43 = .ok (.iload_n 2, 1) := by decide +kernel
theorem dX12_days_44 : decode cX12_days 44 = .ok (.ireturn, 1) := by decide +kernel
abbrev MX12_days : MI := (RX12, cX12_days, 4, 4, false)
def lcX12_days_1 : Ex Bool := (ltI (lvI 3) (lvI 1))
def lbX12_days_1 : St := (forB (lsI 2 (addI (lvI 2) (calX decI (ckV 12 0) mX12_expired (agC va_rf (lvR 0) agN)))) (incI 3 (iI 1)))
def bX12_days : St := (seqS (ifS (notX (ne0 (calX decI (ckV 12 3) mX12_isAhead (agC va_rf (lvR 0) (agC Value.int (lvI 1) (agC Value.int (ciI (iI 1)) (agC Value.int (ciI (iI 40)) agN))))))) (retI (calX decI (ckV 12 1) mX12_refuses (agC va_rf (lvR 0) (agC Value.int (ciI (iI 2)) agN))))) (seqS (calS (ckV 12 0) mX12_keeps (agC va_rf (lvR 0) agN)) (seqS (lsI 2 (ciI (iI 0))) (seqS (scS 3 (seqS (lsI 3 (ciI (iI 0))) (whileS lcX12_days_1 lbX12_days_1))) (retI (lvI 2))))))
theorem jX12_days : JS MX12_days 0 0 0 45 [] bX12_days :=
  (JS.seq (pc1 := 17) (JS.iff (l := 17) (pc1 := 11) (CJ.not_f (CJ.ne0_t (tgt := 17) (pc1 := 8) (JX.call (pc1 := 5) decI_ok (JA.r (JX.al (k := 0) rfl dX12_days_0) (JA.i (JX.il (k := 1) rfl dX12_days_1) (JA.i (JX.ic (n := 1) rfl dX12_days_2) (JA.i (JX.bp (n := 40) kb40 dX12_days_3) JA.nil)))) aX12_isAhead (RunK.V (i := 559) (c := 12) (n := 3) cl12 rfl (CN nX12_isAhead (by decide) (by decide)) gw1949 gw1951 gs127 dX12_days_5) (by decide)) dX12_days_8 rfl)) (JS.retI (pc1 := 16) (JX.call (pc1 := 13) decI_ok (JA.r (JX.al (k := 0) rfl dX12_days_11) (JA.i (JX.ic (n := 2) rfl dX12_days_12) JA.nil)) aX12_refuses (RunK.V (i := 227) (c := 12) (n := 1) cl12 rfl (CN nX12_refuses (by decide) (by decide)) gw1530 gw1532 gs54 dX12_days_13) (by decide)) dX12_days_16) (Or.inl rfl)) (JS.seq (pc1 := 21) (JS.call (pc1 := 18) (JA.r (JX.al (k := 0) rfl dX12_days_17) JA.nil) aX12_keeps (RunK.V (i := 503) (c := 12) (n := 0) cl12 rfl (CN nX12_keeps (by decide) (by decide)) gw1757 gw1759 gs91 dX12_days_18)) (JS.seq (pc1 := 23) (JS.is (pc1 := 22) (k := 2) (JX.ic (n := 0) rfl dX12_days_21) rfl (show 2 < 4 by decide) dX12_days_22) (JS.seq (pc1 := 43) (JS.sc (JS.seq (pc1 := 25) (JS.is (pc1 := 24) (k := 3) (JX.ic (n := 0) rfl dX12_days_23) rfl (show 3 < 4 by decide) dX12_days_24) (JS.while (l := 43) (lb := 43) (pc1 := 30) (pc2 := 40) (pc3 := 43) (CJ.lt_f (tgt := 43) (pc1 := 26) (pc2 := 27) (JX.il (k := 3) rfl dX12_days_25) (JX.il (k := 1) rfl dX12_days_26) dX12_days_27 rfl) (JS.forb (pc1 := 37) (JS.is (pc1 := 36) (k := 2) (JX.iadd (pc1 := 31) (pc2 := 35) (JX.il (k := 2) rfl dX12_days_30) (JX.call (pc1 := 32) decI_ok (JA.r (JX.al (k := 0) rfl dX12_days_31) JA.nil) aX12_expired (RunK.V (i := 562) (c := 12) (n := 0) cl12 rfl (CN nX12_expired (by decide) (by decide)) gw1953 gw1955 gs128 dX12_days_32) (by decide)) dX12_days_35) rfl (show 2 < 4 by decide) dX12_days_36) (JS.inc (n := 1) rfl (show 3 < 4 by decide) dX12_days_37)) dX12_days_40 rfl (Or.inl rfl) (Or.inl rfl)))) (JS.retI (pc1 := 44) (JX.il (k := 2) rfl dX12_days_43) dX12_days_44)))))
def mX12_days : MS := runM 4 (some (.int)) bX12_days
theorem aX12_days : MA yX12_days cX12_days 4 (some (.int)) 4 mX12_days := MA.of (plainFor_of_name (by decide)) jX12_days
theorem eX12_days (a0 : Nat) (a1 : Int32) (h : AH) : mX12_days [.ref a0, .int a1] h = (bX12_days [.val (.ref a0), .val (.int a1), .unset, .unset] h).bind (finM (some (.int))) := rfl
/-! PieceStoreModel.draw -/
theorem dX12_draw_0 : decode cX12_draw 0 = .ok (.aload_n 0, 1) := by decide +kernel
theorem dX12_draw_1 : decode cX12_draw 1 = .ok (.ldc2_w 577, 3) := by decide +kernel
theorem dX12_draw_4 : decode cX12_draw 4 = .ok (.aload_n 0, 1) := by decide +kernel
theorem dX12_draw_5 : decode cX12_draw 5 = .ok (.getfield 136, 3) := by decide +kernel
theorem dX12_draw_8 : decode cX12_draw 8 = .ok (.lmul, 1) := by decide +kernel
theorem dX12_draw_9 : decode cX12_draw 9 = .ok (.ldc2_w 579, 3) := by decide +kernel
theorem dX12_draw_12 : decode cX12_draw 12 = .ok (.ladd, 1) := by decide +kernel
theorem dX12_draw_13 : decode cX12_draw 13 = .ok (.ldc2_w 581, 3) := by decide +kernel
theorem dX12_draw_16 : decode cX12_draw 16 = .ok (.lrem, 1) := by decide +kernel
theorem dX12_draw_17 : decode cX12_draw 17 = .ok (.putfield 136, 3) := by decide +kernel
theorem dX12_draw_20 : decode cX12_draw 20 = .ok (.aload_n 0, 1) := by decide +kernel
theorem dX12_draw_21 : decode cX12_draw 21 = .ok (.getfield 136, 3) := by decide +kernel
theorem dX12_draw_24 : decode cX12_draw 24 = .ok (.ldc2_w 583, 3) := by decide +kernel
theorem dX12_draw_27 : decode cX12_draw 27 = .ok (.ldiv, 1) := by decide +kernel
theorem dX12_draw_28 : decode cX12_draw 28 = .ok (.iload_n 1, 1) := by decide +kernel
theorem dX12_draw_29 : decode cX12_draw 29 = .ok (.i2l, 1) := by decide +kernel
theorem dX12_draw_30 : decode cX12_draw 30 = .ok (.lrem, 1) := by decide +kernel
theorem dX12_draw_31 : decode cX12_draw 31 = .ok (.l2i, 1) := by decide +kernel
theorem dX12_draw_32 : decode cX12_draw 32 = .ok (.ireturn, 1) := by decide +kernel
abbrev MX12_draw : MI := (RX12, cX12_draw, 2, 1, false)
def bX12_draw : St := (seqS (putL 12 40 (lvR 0) (remL (addL (mulL (clL (lI 1103515245)) (getL 12 40 (lvR 0))) (clL (lI 12345))) (clL (lI 2147483648)))) (retI (l2I (remL (divL (getL 12 40 (lvR 0)) (clL (lI 64))) (i2L (lvI 1))))))
theorem jX12_draw : JS MX12_draw 0 0 0 33 [] bX12_draw :=
  (JS.seq (pc1 := 20) (JS.pL (pc1 := 1) (pc2 := 17) (c := 12) (k := 40) (i := 136) (JX.al (k := 0) rfl dX12_draw_0) (JX.lrem (pc1 := 13) (pc2 := 16) (JX.ladd (pc1 := 9) (pc2 := 12) (JX.lmul (pc1 := 4) (pc2 := 8) (JX.ld2K (i := 577) (by decide) gw2017 dX12_draw_1) (JX.getL (pc1 := 5) (c := 12) (k := 40) (i := 136) (JX.al (k := 0) rfl dX12_draw_4) cl12 (by decide) rfl fk12_136 dX12_draw_5) dX12_draw_8) (JX.ld2K (i := 579) (by decide) gw2018 dX12_draw_9) dX12_draw_12) (JX.ld2K (i := 581) (by decide) gw2019 dX12_draw_13) dX12_draw_16) cl12 (by decide) rfl fk12_136 (Or.inl rfl) dX12_draw_17) (JS.retI (pc1 := 32) (JX.l2i (pc1 := 31) (JX.lrem (pc1 := 28) (pc2 := 30) (JX.ldiv (pc1 := 24) (pc2 := 27) (JX.getL (pc1 := 21) (c := 12) (k := 40) (i := 136) (JX.al (k := 0) rfl dX12_draw_20) cl12 (by decide) rfl fk12_136 dX12_draw_21) (JX.ld2K (i := 583) (by decide) gw2020 dX12_draw_24) dX12_draw_27) (JX.i2l (pc1 := 29) (JX.il (k := 1) rfl dX12_draw_28) dX12_draw_29) dX12_draw_30) dX12_draw_31) dX12_draw_32))
def mX12_draw : MS := runM 2 (some (.int)) bX12_draw
theorem aX12_draw : MA yX12_draw cX12_draw 2 (some (.int)) 1 mX12_draw := MA.of (plainFor_of_name (by decide)) jX12_draw
theorem eX12_draw (a0 : Nat) (a1 : Int32) (h : AH) : mX12_draw [.ref a0, .int a1] h = (bX12_draw [.val (.ref a0), .val (.int a1)] h).bind (finM (some (.int))) := rfl
/-! PieceStoreModel.chance -/
theorem dX12_chance_0 : decode cX12_chance 0 = .ok (.aload_n 0, 1) := by decide +kernel
theorem dX12_chance_1 : decode cX12_chance 1 = .ok (.iload_n 1, 1) := by decide +kernel
theorem dX12_chance_2 : decode cX12_chance 2 = .ok (.iconst 1, 1) := by decide +kernel
theorem dX12_chance_3 : decode cX12_chance 3 = .ok (.bipush 40, 2) := by decide +kernel
theorem dX12_chance_5 : decode cX12_chance 5 = .ok (.invokevirtual 559, 3) := by decide +kernel
theorem dX12_chance_8 : decode cX12_chance 8 = .ok (.ifCond .ne 9, 3) := by decide +kernel
theorem dX12_chance_11 : decode cX12_chance 11 = .ok (.aload_n 0, 1) := by decide +kernel
theorem dX12_chance_12 : decode cX12_chance 12 = .ok (.iconst 2, 1) := by decide +kernel
theorem dX12_chance_13 : decode cX12_chance 13 = .ok (.invokevirtual 227, 3) := by decide +kernel
theorem dX12_chance_16 : decode cX12_chance 16 = .ok (.ireturn, 1) := by decide +kernel
theorem dX12_chance_17 : decode cX12_chance 17 = .ok (.aload_n 0, 1) := by decide +kernel
theorem dX12_chance_18 : decode cX12_chance 18 = .ok (.invokevirtual 503, 3) := by decide +kernel
theorem dX12_chance_21 : decode cX12_chance 21 = .ok (.iconst 0, 1) := by decide +kernel
theorem dX12_chance_22 : decode cX12_chance 22 = .ok (.istore_n 2, 1) := by decide +kernel
theorem dX12_chance_23 : decode cX12_chance 23 = .ok (.iconst 0, 1) := by decide +kernel
theorem dX12_chance_24 : decode cX12_chance 24 = .ok (.istore_n 3, 1) := by decide +kernel
theorem dX12_chance_25 : decode cX12_chance 25 = .ok (.iload_n 3, 1) := by decide +kernel
theorem dX12_chance_26 : decode cX12_chance 26 = .ok (.iload_n 1, 1) := by decide +kernel
theorem dX12_chance_27 : decode cX12_chance 27 = .ok (.if_icmp .ge 60, 3) := by decide +kernel
theorem dX12_chance_30 : decode cX12_chance 30 = .ok (.aload_n 0, 1) := by decide +kernel
theorem dX12_chance_31 : decode cX12_chance 31 = .ok (.bipush 100, 2) := by decide +kernel
theorem dX12_chance_33 : decode cX12_chance 33 = .ok (.invokevirtual 585, 3) := by decide +kernel
theorem dX12_chance_36 : decode cX12_chance 36 = .ok (.aload_n 0, 1) := by decide +kernel
theorem dX12_chance_37 : decode cX12_chance 37 = .ok (.bipush 9, 2) := by decide +kernel
theorem dX12_chance_39 : decode cX12_chance 39 = .ok (.invokevirtual 414, 3) := by decide +kernel
theorem dX12_chance_42 : decode cX12_chance 42 = .ok (.if_icmp .ge 34, 3) := by decide +kernel
theorem dX12_chance_45 : decode cX12_chance 45 = .ok (.aload_n 0, 1) := by decide +kernel
theorem dX12_chance_46 : decode cX12_chance 46 = .ok (.getfield 117, 3) := by decide +kernel
theorem dX12_chance_49 : decode cX12_chance 49 = .ok (.iconst 5, 1) := by decide +kernel
theorem dX12_chance_50 : decode cX12_chance 50 = .ok (.iaload, 1) := by decide +kernel
theorem dX12_chance_51 : decode cX12_chance 51 = .ok (.ifCond .le 25, 3) := by decide +kernel
theorem dX12_chance_54 : decode cX12_chance 54 = .ok (.aload_n 0, 1) := by decide +kernel
theorem dX12_chance_55 : decode cX12_chance 55 = .ok (.sipush 368, 3) := by decide +kernel
theorem dX12_chance_58 : decode cX12_chance 58 = .ok (.aload_n 0, 1) := by decide +kernel
theorem dX12_chance_59 : decode cX12_chance 59 = .ok (.aload_n 0, 1) := by decide +kernel
theorem dX12_chance_60 : decode cX12_chance 60 = .ok (.getfield 117, 3) := by decide +kernel
theorem dX12_chance_63 : decode cX12_chance 63 = .ok (.iconst 5, 1) := by decide +kernel
theorem dX12_chance_64 : decode cX12_chance 64 = .ok (.iaload, 1) := by decide +kernel
theorem dX12_chance_65 : decode cX12_chance 65 = .ok (.invokevirtual 585, 3) := by decide +kernel
theorem dX12_chance_68 : decode cX12_chance 68 = .ok (.iadd, 1) := by decide +kernel
theorem dX12_chance_69 : decode cX12_chance 69 = .ok (.iconst 1, 1) := by decide +kernel
theorem dX12_chance_70 : decode cX12_chance 70 = .ok (.invokevirtual 450, 3) := by decide +kernel
theorem dX12_chance_73 : decode cX12_chance 73 = .ok (.iinc 2 1, 3) := by decide +kernel
theorem dX12_chance_76 : decode cX12_chance 76 = .ok (.aload_n 0, 1) := by decide +kernel
theorem dX12_chance_77 : decode cX12_chance 77 = .ok (.invokevirtual 562, 3) := by decide +kernel
theorem dX12_chance_80 : decode cX12_chance 80 = .ok (.pop, 1) := by decide +kernel
theorem dX12_chance_81 : decode cX12_chance 81 = .ok (.iinc 3 1, 3) := by decide +kernel
theorem dX12_chance_84 : decode cX12_chance 84 = .ok (.goto (-59), 3) := by decide +kernel
theorem dX12_chance_87 : decode cX12_chance 87 = .ok (.iload_n 2, 1) := by decide +kernel
theorem dX12_chance_88 : decode cX12_chance 88 = .ok (.ireturn, 1) := by decide +kernel
abbrev MX12_chance : MI := (RX12, cX12_chance, 4, 4, false)
def lcX12_chance_1 : Ex Bool := (ltI (lvI 3) (lvI 1))
def lbX12_chance_1 : St := (forB (seqS (ifS (andX (ltI (calX decI (ckV 12 1) mX12_draw (agC va_rf (lvR 0) (agC Value.int (ciI (iI 100)) agN))) (calX decI (ckV 12 1) mX12_by (agC va_rf (lvR 0) (agC Value.int (ciI (iI 9)) agN)))) (gt0 (aldI 2 (getR 12 34 (lvR 0)) (ciI (iI 5))))) (seqS (calS (ckV 12 2) mX12_puts (agC va_rf (lvR 0) (agC Value.int (addI (ciI (iI 368)) (calX decI (ckV 12 1) mX12_draw (agC va_rf (lvR 0) (agC Value.int (aldI 2 (getR 12 34 (lvR 0)) (ciI (iI 5))) agN)))) (agC Value.int (ciI (iI 1)) agN)))) (incI 2 (iI 1)))) (exS (calX decI (ckV 12 0) mX12_expired (agC va_rf (lvR 0) agN)))) (incI 3 (iI 1)))
def bX12_chance : St := (seqS (ifS (notX (ne0 (calX decI (ckV 12 3) mX12_isAhead (agC va_rf (lvR 0) (agC Value.int (lvI 1) (agC Value.int (ciI (iI 1)) (agC Value.int (ciI (iI 40)) agN))))))) (retI (calX decI (ckV 12 1) mX12_refuses (agC va_rf (lvR 0) (agC Value.int (ciI (iI 2)) agN))))) (seqS (calS (ckV 12 0) mX12_keeps (agC va_rf (lvR 0) agN)) (seqS (lsI 2 (ciI (iI 0))) (seqS (scS 3 (seqS (lsI 3 (ciI (iI 0))) (whileS lcX12_chance_1 lbX12_chance_1))) (retI (lvI 2))))))
theorem jX12_chance : JS MX12_chance 0 0 0 89 [] bX12_chance :=
  (JS.seq (pc1 := 17) (JS.iff (l := 17) (pc1 := 11) (CJ.not_f (CJ.ne0_t (tgt := 17) (pc1 := 8) (JX.call (pc1 := 5) decI_ok (JA.r (JX.al (k := 0) rfl dX12_chance_0) (JA.i (JX.il (k := 1) rfl dX12_chance_1) (JA.i (JX.ic (n := 1) rfl dX12_chance_2) (JA.i (JX.bp (n := 40) kb40 dX12_chance_3) JA.nil)))) aX12_isAhead (RunK.V (i := 559) (c := 12) (n := 3) cl12 rfl (CN nX12_isAhead (by decide) (by decide)) gw1949 gw1951 gs127 dX12_chance_5) (by decide)) dX12_chance_8 rfl)) (JS.retI (pc1 := 16) (JX.call (pc1 := 13) decI_ok (JA.r (JX.al (k := 0) rfl dX12_chance_11) (JA.i (JX.ic (n := 2) rfl dX12_chance_12) JA.nil)) aX12_refuses (RunK.V (i := 227) (c := 12) (n := 1) cl12 rfl (CN nX12_refuses (by decide) (by decide)) gw1530 gw1532 gs54 dX12_chance_13) (by decide)) dX12_chance_16) (Or.inl rfl)) (JS.seq (pc1 := 21) (JS.call (pc1 := 18) (JA.r (JX.al (k := 0) rfl dX12_chance_17) JA.nil) aX12_keeps (RunK.V (i := 503) (c := 12) (n := 0) cl12 rfl (CN nX12_keeps (by decide) (by decide)) gw1757 gw1759 gs91 dX12_chance_18)) (JS.seq (pc1 := 23) (JS.is (pc1 := 22) (k := 2) (JX.ic (n := 0) rfl dX12_chance_21) rfl (show 2 < 4 by decide) dX12_chance_22) (JS.seq (pc1 := 87) (JS.sc (JS.seq (pc1 := 25) (JS.is (pc1 := 24) (k := 3) (JX.ic (n := 0) rfl dX12_chance_23) rfl (show 3 < 4 by decide) dX12_chance_24) (JS.while (l := 87) (lb := 87) (pc1 := 30) (pc2 := 84) (pc3 := 87) (CJ.lt_f (tgt := 87) (pc1 := 26) (pc2 := 27) (JX.il (k := 3) rfl dX12_chance_25) (JX.il (k := 1) rfl dX12_chance_26) dX12_chance_27 rfl) (JS.forb (pc1 := 81) (JS.seq (pc1 := 76) (JS.iff (l := 76) (pc1 := 54) (CJ.and_f (pc1 := 45) (CJ.lt_f (tgt := 76) (pc1 := 36) (pc2 := 42) (JX.call (pc1 := 33) decI_ok (JA.r (JX.al (k := 0) rfl dX12_chance_30) (JA.i (JX.bp (n := 100) kb100 dX12_chance_31) JA.nil)) aX12_draw (RunK.V (i := 585) (c := 12) (n := 1) cl12 rfl (CN nX12_draw (by decide) (by decide)) gw2013 gw2015 gs134 dX12_chance_33) (by decide)) (JX.call (pc1 := 39) decI_ok (JA.r (JX.al (k := 0) rfl dX12_chance_36) (JA.i (JX.bp (n := 9) kb9 dX12_chance_37) JA.nil)) aX12_by (RunK.V (i := 414) (c := 12) (n := 1) cl12 rfl (CN nX12_by (by decide) (by decide)) gw1714 gw1716 gs83 dX12_chance_39) (by decide)) dX12_chance_42 rfl) (CJ.gt0_f (tgt := 76) (pc1 := 51) (JX.iald (pc1 := 49) (pc2 := 50) (JX.getR (pc1 := 46) (c := 12) (k := 34) (i := 117) (JX.al (k := 0) rfl dX12_chance_45) cl12 (by decide) rfl fk12_117 dX12_chance_46) (JX.ic (n := 5) rfl dX12_chance_49) dX12_chance_50) dX12_chance_51 rfl)) (JS.seq (pc1 := 73) (JS.call (pc1 := 70) (JA.r (JX.al (k := 0) rfl dX12_chance_54) (JA.i (JX.iadd (pc1 := 58) (pc2 := 68) (JX.sp (n := 368) ks368 dX12_chance_55) (JX.call (pc1 := 65) decI_ok (JA.r (JX.al (k := 0) rfl dX12_chance_58) (JA.i (JX.iald (pc1 := 63) (pc2 := 64) (JX.getR (pc1 := 60) (c := 12) (k := 34) (i := 117) (JX.al (k := 0) rfl dX12_chance_59) cl12 (by decide) rfl fk12_117 dX12_chance_60) (JX.ic (n := 5) rfl dX12_chance_63) dX12_chance_64) JA.nil)) aX12_draw (RunK.V (i := 585) (c := 12) (n := 1) cl12 rfl (CN nX12_draw (by decide) (by decide)) gw2013 gw2015 gs134 dX12_chance_65) (by decide)) dX12_chance_68) (JA.i (JX.ic (n := 1) rfl dX12_chance_69) JA.nil))) aX12_puts (RunK.V (i := 450) (c := 12) (n := 2) cl12 rfl (CN nX12_puts (by decide) (by decide)) gw1816 gw1818 gs105 dX12_chance_70)) (JS.inc (n := 1) rfl (show 2 < 4 by decide) dX12_chance_73)) (Or.inl rfl)) (JS.pop (pc1 := 80) (JX.call (pc1 := 77) decI_ok (JA.r (JX.al (k := 0) rfl dX12_chance_76) JA.nil) aX12_expired (RunK.V (i := 562) (c := 12) (n := 0) cl12 rfl (CN nX12_expired (by decide) (by decide)) gw1953 gw1955 gs128 dX12_chance_77) (by decide)) (fun _ => rfl) dX12_chance_80)) (JS.inc (n := 1) rfl (show 3 < 4 by decide) dX12_chance_81)) dX12_chance_84 rfl (Or.inl rfl) (Or.inl rfl)))) (JS.retI (pc1 := 88) (JX.il (k := 2) rfl dX12_chance_87) dX12_chance_88)))))
def mX12_chance : MS := runM 4 (some (.int)) bX12_chance
theorem aX12_chance : MA yX12_chance cX12_chance 4 (some (.int)) 4 mX12_chance := MA.of (plainFor_of_name (by decide)) jX12_chance
theorem eX12_chance (a0 : Nat) (a1 : Int32) (h : AH) : mX12_chance [.ref a0, .int a1] h = (bX12_chance [.val (.ref a0), .val (.int a1), .unset, .unset] h).bind (finM (some (.int))) := rfl
/-! PieceStoreModel.clean -/
theorem dX12_clean_0 : decode cX12_clean 0 = .ok (.aload_n 0, 1) := by decide +kernel
theorem dX12_clean_1 : decode cX12_clean 1 = .ok (.getfield 110, 3) := by decide +kernel
theorem dX12_clean_4 : decode cX12_clean 4 = .ok (.ifCond .eq 10, 3) := by decide +kernel
theorem dX12_clean_7 : decode cX12_clean 7 = .ok (.aload_n 0, 1) := by decide +kernel
theorem dX12_clean_8 : decode cX12_clean 8 = .ok (.invokevirtual 565, 3) := by decide +kernel
theorem dX12_clean_11 : decode cX12_clean 11 = .ok (.goto 4, 3) := by decide +kernel
theorem dX12_clean_14 : decode cX12_clean 14 = .ok (.iconst 0, 1) := by decide +kernel
theorem dX12_clean_15 : decode cX12_clean 15 = .ok (.istore_n 1, 1) := by decide +kernel
theorem dX12_clean_16 : decode cX12_clean 16 = .ok (.iload_n 1, 1) := by decide +kernel
theorem dX12_clean_17 : decode cX12_clean 17 = .ok (.ifCond .ne 9, 3) := by decide +kernel
theorem dX12_clean_20 : decode cX12_clean 20 = .ok (.aload_n 0, 1) := by decide +kernel
theorem dX12_clean_21 : decode cX12_clean 21 = .ok (.iconst 2, 1) := by decide +kernel
theorem dX12_clean_22 : decode cX12_clean 22 = .ok (.invokevirtual 227, 3) := by decide +kernel
theorem dX12_clean_25 : decode cX12_clean 25 = .ok (.ireturn, 1) := by decide +kernel
theorem dX12_clean_26 : decode cX12_clean 26 = .ok (.aload_n 0, 1) := by decide +kernel
theorem dX12_clean_27 : decode cX12_clean 27 = .ok (.invokevirtual 503, 3) := by decide +kernel
theorem dX12_clean_30 : decode cX12_clean 30 = .ok (.aload_n 0, 1) := by decide +kernel
theorem dX12_clean_31 : decode cX12_clean 31 = .ok (.invokevirtual 568, 3) := by decide +kernel
theorem dX12_clean_34 : decode cX12_clean 34 = .ok (.iload_n 1, 1) := by decide +kernel
theorem dX12_clean_35 : decode cX12_clean 35 = .ok (.ireturn, 1) := by decide +kernel
abbrev MX12_clean : MI := (RX12, cX12_clean, 2, 6, false)
def bX12_clean : St := (seqS (lsI 1 (iteX (ne0 (getI 12 32 (lvR 0))) (calX decI (ckV 12 0) mX12_fouls (agC va_rf (lvR 0) agN)) (ciI (iI 0)))) (seqS (ifS (eq0 (lvI 1)) (retI (calX decI (ckV 12 1) mX12_refuses (agC va_rf (lvR 0) (agC Value.int (ciI (iI 2)) agN))))) (seqS (calS (ckV 12 0) mX12_keeps (agC va_rf (lvR 0) agN)) (seqS (calS (ckV 12 0) mX12_cleans (agC va_rf (lvR 0) agN)) (retI (lvI 1))))))
theorem jX12_clean : JS MX12_clean 0 0 0 36 [] bX12_clean :=
  (JS.seq (pc1 := 16) (JS.is (pc1 := 15) (k := 1) (JX.ite (l := 14) (pc1 := 7) (pc2 := 11) (pc3 := 15) (lend := 15) (CJ.ne0_f (tgt := 14) (pc1 := 4) (JX.getI (pc1 := 1) (c := 12) (k := 32) (i := 110) (JX.al (k := 0) rfl dX12_clean_0) cl12 (by decide) rfl fk12_110 dX12_clean_1) dX12_clean_4 rfl) (JX.call (pc1 := 8) decI_ok (JA.r (JX.al (k := 0) rfl dX12_clean_7) JA.nil) aX12_fouls (RunK.V (i := 565) (c := 12) (n := 0) cl12 rfl (CN nX12_fouls (by decide) (by decide)) gw1965 gw1967 gs129 dX12_clean_8) (by decide)) dX12_clean_11 rfl (JX.ic (n := 0) rfl dX12_clean_14) (Or.inl rfl)) rfl (show 1 < 2 by decide) dX12_clean_15) (JS.seq (pc1 := 26) (JS.iff (l := 26) (pc1 := 20) (CJ.eq0_f (tgt := 26) (pc1 := 17) (JX.il (k := 1) rfl dX12_clean_16) dX12_clean_17 rfl) (JS.retI (pc1 := 25) (JX.call (pc1 := 22) decI_ok (JA.r (JX.al (k := 0) rfl dX12_clean_20) (JA.i (JX.ic (n := 2) rfl dX12_clean_21) JA.nil)) aX12_refuses (RunK.V (i := 227) (c := 12) (n := 1) cl12 rfl (CN nX12_refuses (by decide) (by decide)) gw1530 gw1532 gs54 dX12_clean_22) (by decide)) dX12_clean_25) (Or.inl rfl)) (JS.seq (pc1 := 30) (JS.call (pc1 := 27) (JA.r (JX.al (k := 0) rfl dX12_clean_26) JA.nil) aX12_keeps (RunK.V (i := 503) (c := 12) (n := 0) cl12 rfl (CN nX12_keeps (by decide) (by decide)) gw1757 gw1759 gs91 dX12_clean_27)) (JS.seq (pc1 := 34) (JS.call (pc1 := 31) (JA.r (JX.al (k := 0) rfl dX12_clean_30) JA.nil) aX12_cleans (RunK.V (i := 568) (c := 12) (n := 0) cl12 rfl (CN nX12_cleans (by decide) (by decide)) gw1969 gw1971 gs130 dX12_clean_31)) (JS.retI (pc1 := 35) (JX.il (k := 1) rfl dX12_clean_34) dX12_clean_35)))))
def mX12_clean : MS := runM 2 (some (.int)) bX12_clean
theorem aX12_clean : MA yX12_clean cX12_clean 2 (some (.int)) 6 mX12_clean := MA.of (plainFor_of_name (by decide)) jX12_clean
theorem eX12_clean (a0 : Nat) (h : AH) : mX12_clean [.ref a0] h = (bX12_clean [.val (.ref a0), .unset] h).bind (finM (some (.int))) := rfl
/-! PieceStoreModel.spoil -/
theorem dX12_spoil_0 : decode cX12_spoil 0 = .ok (.aload_n 0, 1) := by decide +kernel
theorem dX12_spoil_1 : decode cX12_spoil 1 = .ok (.iload_n 1, 1) := by decide +kernel
theorem dX12_spoil_2 : decode cX12_spoil 2 = .ok (.invokevirtual 432, 3) := by decide +kernel
theorem dX12_spoil_5 : decode cX12_spoil 5 = .ok (.ifCond .eq 37, 3) := by decide +kernel
theorem dX12_spoil_8 : decode cX12_spoil 8 = .ok (.iload_n 2, 1) := by decide +kernel
theorem dX12_spoil_9 : decode cX12_spoil 9 = .ok (.iconst 0, 1) := by decide +kernel
theorem dX12_spoil_10 : decode cX12_spoil 10 = .ok (.aload_n 0, 1) := by decide +kernel
theorem dX12_spoil_11 : decode cX12_spoil 11 = .ok (.iload_n 1, 1) := by decide +kernel
theorem dX12_spoil_12 : decode cX12_spoil 12 = .ok (.invokevirtual 435, 3) := by decide +kernel
theorem dX12_spoil_15 : decode cX12_spoil 15 = .ok (.iconst 1, 1) := by decide +kernel
theorem dX12_spoil_16 : decode cX12_spoil 16 = .ok (.isub, 1) := by decide +kernel
theorem dX12_spoil_17 : decode cX12_spoil 17 = .ok (.invokestatic 313, 3) := by decide +kernel
theorem dX12_spoil_20 : decode cX12_spoil 20 = .ok (.ifCond .eq 22, 3) := by decide +kernel
theorem dX12_spoil_23 : decode cX12_spoil 23 = .ok (.aload_n 0, 1) := by decide +kernel
theorem dX12_spoil_24 : decode cX12_spoil 24 = .ok (.getfield 117, 3) := by decide +kernel
theorem dX12_spoil_27 : decode cX12_spoil 27 = .ok (.sipush 21398, 3) := by decide +kernel
theorem dX12_spoil_30 : decode cX12_spoil 30 = .ok (.aload_n 0, 1) := by decide +kernel
theorem dX12_spoil_31 : decode cX12_spoil 31 = .ok (.iload_n 1, 1) := by decide +kernel
theorem dX12_spoil_32 : decode cX12_spoil 32 = .ok (.iload_n 2, 1) := by decide +kernel
theorem dX12_spoil_33 : decode cX12_spoil 33 = .ok (.invokevirtual 438, 3) := by decide +kernel
theorem dX12_spoil_36 : decode cX12_spoil 36 = .ok (.iadd, 1) := by decide +kernel
theorem dX12_spoil_37 : decode cX12_spoil 37 = .ok (.iaload, 1) := by decide +kernel
theorem dX12_spoil_38 : decode cX12_spoil 38 = .ok (.iconst 1, 1) := by decide +kernel
theorem dX12_spoil_39 : decode cX12_spoil 39 = .ok (.if_icmp .ne 17, 3) := by decide +kernel
theorem dX12_spoil_42 : decode cX12_spoil 42 = .ok (.aload_n 0, 1) := by decide +kernel
theorem dX12_spoil_43 : decode cX12_spoil 43 = .ok (.iconst 3, 1) := by decide +kernel
theorem dX12_spoil_44 : decode cX12_spoil 44 = .ok (.invokevirtual 227, 3) := by decide +kernel
theorem dX12_spoil_47 : decode cX12_spoil 47 = .ok (.ifCond .lt 7, 3) := by decide +kernel
theorem dX12_spoil_50 : decode cX12_spoil 50 = .ok (.iconst 1, 1) := by decide +kernel
theorem dX12_spoil_51 : decode cX12_spoil 51 = .ok (.goto 4, 3) := by decide +kernel
theorem dX12_spoil_54 : decode cX12_spoil 54 = .ok (.iconst 0, 1) := by decide +kernel
theorem dX12_spoil_55 : decode cX12_spoil 55 = .ok (.ireturn, 1) := by decide +kernel
theorem dX12_spoil_56 : decode cX12_spoil 56 = .ok (.aload_n 0, 1) := by decide +kernel
theorem dX12_spoil_57 : decode cX12_spoil 57 = .ok (.invokevirtual 503, 3) := by decide +kernel
theorem dX12_spoil_60 : decode cX12_spoil 60 = .ok (.aload_n 0, 1) := by decide +kernel
theorem dX12_spoil_61 : decode cX12_spoil 61 = .ok (.sipush 21398, 3) := by decide +kernel
theorem dX12_spoil_64 : decode cX12_spoil 64 = .ok (.aload_n 0, 1) := by decide +kernel
theorem dX12_spoil_65 : decode cX12_spoil 65 = .ok (.iload_n 1, 1) := by decide +kernel
theorem dX12_spoil_66 : decode cX12_spoil 66 = .ok (.iload_n 2, 1) := by decide +kernel
theorem dX12_spoil_67 : decode cX12_spoil 67 = .ok (.invokevirtual 438, 3) := by decide +kernel
theorem dX12_spoil_70 : decode cX12_spoil 70 = .ok (.iadd, 1) := by decide +kernel
theorem dX12_spoil_71 : decode cX12_spoil 71 = .ok (.iconst 1, 1) := by decide +kernel
theorem dX12_spoil_72 : decode cX12_spoil 72 = .ok (.invokevirtual 450, 3) := by decide +kernel
theorem dX12_spoil_75 : decode cX12_spoil 75 = .ok (.iconst 1, 1) := by decide +kernel
theorem dX12_spoil_76 : decode cX12_spoil 76 = .ok (.ireturn, 1) := by decide +kernel
abbrev MX12_spoil : MI := (RX12, cX12_spoil, 3, 3, false)
def bX12_spoil : St := (seqS (ifS (orX (orX (notX (ne0 (calX decI (ckV 12 1) mX12_isBackup (agC va_rf (lvR 0) (agC Value.int (lvI 1) agN))))) (notX (ne0 (calX decI (ckS 3) mX12_is (agC Value.int (lvI 2) (agC Value.int (ciI (iI 0)) (agC Value.int (subI (calX decI (ckV 12 1) mX12_manyOf (agC va_rf (lvR 0) (agC Value.int (lvI 1) agN))) (ciI (iI 1))) agN))))))) (eqI (aldI 2 (getR 12 34 (lvR 0)) (addI (ciI (iI 21398)) (calX decI (ckV 12 2) mX12_pieceOf (agC va_rf (lvR 0) (agC Value.int (lvI 1) (agC Value.int (lvI 2) agN)))))) (ciI (iI 1)))) (retI (iteX (ge0 (calX decI (ckV 12 1) mX12_refuses (agC va_rf (lvR 0) (agC Value.int (ciI (iI 3)) agN)))) (ciI (iI 1)) (ciI (iI 0))))) (seqS (calS (ckV 12 0) mX12_keeps (agC va_rf (lvR 0) agN)) (seqS (calS (ckV 12 2) mX12_puts (agC va_rf (lvR 0) (agC Value.int (addI (ciI (iI 21398)) (calX decI (ckV 12 2) mX12_pieceOf (agC va_rf (lvR 0) (agC Value.int (lvI 1) (agC Value.int (lvI 2) agN))))) (agC Value.int (ciI (iI 1)) agN)))) (retI (ciI (iI 1))))))
theorem jX12_spoil : JS MX12_spoil 0 0 0 77 [] bX12_spoil :=
  (JS.seq (pc1 := 56) (JS.iff (l := 56) (pc1 := 42) (CJ.or_f (l := 42) (pc1 := 23) (CJ.or_t (pc1 := 8) (CJ.not_t (CJ.ne0_f (tgt := 42) (pc1 := 5) (JX.call (pc1 := 2) decI_ok (JA.r (JX.al (k := 0) rfl dX12_spoil_0) (JA.i (JX.il (k := 1) rfl dX12_spoil_1) JA.nil)) aX12_isBackup (RunK.V (i := 432) (c := 12) (n := 1) cl12 rfl (CN nX12_isBackup (by decide) (by decide)) gw1710 gw1712 gs82 dX12_spoil_2) (by decide)) dX12_spoil_5 rfl)) (CJ.not_t (CJ.ne0_f (tgt := 42) (pc1 := 20) (JX.call (pc1 := 17) decI_ok (JA.i (JX.il (k := 2) rfl dX12_spoil_8) (JA.i (JX.ic (n := 0) rfl dX12_spoil_9) (JA.i (JX.isub (pc1 := 15) (pc2 := 16) (JX.call (pc1 := 12) decI_ok (JA.r (JX.al (k := 0) rfl dX12_spoil_10) (JA.i (JX.il (k := 1) rfl dX12_spoil_11) JA.nil)) aX12_manyOf (RunK.V (i := 435) (c := 12) (n := 1) cl12 rfl (CN nX12_manyOf (by decide) (by decide)) gw1856 gw1858 gs114 dX12_spoil_12) (by decide)) (JX.ic (n := 1) rfl dX12_spoil_15) dX12_spoil_16) JA.nil))) aX12_is (RunK.S (i := 313) (n := 3) (CN nX12_is (by decide) (by decide)) gw1589 gw1590 dX12_spoil_17) (by decide)) dX12_spoil_20 rfl))) (CJ.eq_f (tgt := 56) (pc1 := 38) (pc2 := 39) (JX.iald (pc1 := 27) (pc2 := 37) (JX.getR (pc1 := 24) (c := 12) (k := 34) (i := 117) (JX.al (k := 0) rfl dX12_spoil_23) cl12 (by decide) rfl fk12_117 dX12_spoil_24) (JX.iadd (pc1 := 30) (pc2 := 36) (JX.sp (n := 21398) ks21398 dX12_spoil_27) (JX.call (pc1 := 33) decI_ok (JA.r (JX.al (k := 0) rfl dX12_spoil_30) (JA.i (JX.il (k := 1) rfl dX12_spoil_31) (JA.i (JX.il (k := 2) rfl dX12_spoil_32) JA.nil))) aX12_pieceOf (RunK.V (i := 438) (c := 12) (n := 2) cl12 rfl (CN nX12_pieceOf (by decide) (by decide)) gw1860 gw1862 gs115 dX12_spoil_33) (by decide)) dX12_spoil_36) dX12_spoil_37) (JX.ic (n := 1) rfl dX12_spoil_38) dX12_spoil_39 rfl) (Or.inl rfl)) (JS.retI (pc1 := 55) (JX.ite (l := 54) (pc1 := 50) (pc2 := 51) (pc3 := 55) (lend := 55) (CJ.ge0_f (tgt := 54) (pc1 := 47) (JX.call (pc1 := 44) decI_ok (JA.r (JX.al (k := 0) rfl dX12_spoil_42) (JA.i (JX.ic (n := 3) rfl dX12_spoil_43) JA.nil)) aX12_refuses (RunK.V (i := 227) (c := 12) (n := 1) cl12 rfl (CN nX12_refuses (by decide) (by decide)) gw1530 gw1532 gs54 dX12_spoil_44) (by decide)) dX12_spoil_47 rfl) (JX.ic (n := 1) rfl dX12_spoil_50) dX12_spoil_51 rfl (JX.ic (n := 0) rfl dX12_spoil_54) (Or.inl rfl)) dX12_spoil_55) (Or.inl rfl)) (JS.seq (pc1 := 60) (JS.call (pc1 := 57) (JA.r (JX.al (k := 0) rfl dX12_spoil_56) JA.nil) aX12_keeps (RunK.V (i := 503) (c := 12) (n := 0) cl12 rfl (CN nX12_keeps (by decide) (by decide)) gw1757 gw1759 gs91 dX12_spoil_57)) (JS.seq (pc1 := 75) (JS.call (pc1 := 72) (JA.r (JX.al (k := 0) rfl dX12_spoil_60) (JA.i (JX.iadd (pc1 := 64) (pc2 := 70) (JX.sp (n := 21398) ks21398 dX12_spoil_61) (JX.call (pc1 := 67) decI_ok (JA.r (JX.al (k := 0) rfl dX12_spoil_64) (JA.i (JX.il (k := 1) rfl dX12_spoil_65) (JA.i (JX.il (k := 2) rfl dX12_spoil_66) JA.nil))) aX12_pieceOf (RunK.V (i := 438) (c := 12) (n := 2) cl12 rfl (CN nX12_pieceOf (by decide) (by decide)) gw1860 gw1862 gs115 dX12_spoil_67) (by decide)) dX12_spoil_70) (JA.i (JX.ic (n := 1) rfl dX12_spoil_71) JA.nil))) aX12_puts (RunK.V (i := 450) (c := 12) (n := 2) cl12 rfl (CN nX12_puts (by decide) (by decide)) gw1816 gw1818 gs105 dX12_spoil_72)) (JS.retI (pc1 := 76) (JX.ic (n := 1) rfl dX12_spoil_75) dX12_spoil_76))))
def mX12_spoil : MS := runM 3 (some (.boolean)) bX12_spoil
theorem aX12_spoil : MA yX12_spoil cX12_spoil 3 (some (.boolean)) 3 mX12_spoil := MA.of (plainFor_of_name (by decide)) jX12_spoil
theorem eX12_spoil (a0 : Nat) (a1 : Int32) (a2 : Int32) (h : AH) : mX12_spoil [.ref a0, .int a1, .int a2] h = (bX12_spoil [.val (.ref a0), .val (.int a1), .val (.int a2)] h).bind (finM (some (.boolean))) := rfl
/-! PieceStoreModel.smash -/
theorem dX12_smash_0 : decode cX12_smash 0 = .ok (.iload_n 1, 1) := by decide +kernel
theorem dX12_smash_1 : decode cX12_smash 1 = .ok (.iconst 0, 1) := by decide +kernel
theorem dX12_smash_2 : decode cX12_smash 2 = .ok (.aload_n 0, 1) := by decide +kernel
theorem dX12_smash_3 : decode cX12_smash 3 = .ok (.getfield 117, 3) := by decide +kernel
theorem dX12_smash_6 : decode cX12_smash 6 = .ok (.iconst 5, 1) := by decide +kernel
theorem dX12_smash_7 : decode cX12_smash 7 = .ok (.iaload, 1) := by decide +kernel
theorem dX12_smash_8 : decode cX12_smash 8 = .ok (.iconst 1, 1) := by decide +kernel
theorem dX12_smash_9 : decode cX12_smash 9 = .ok (.isub, 1) := by decide +kernel
theorem dX12_smash_10 : decode cX12_smash 10 = .ok (.invokestatic 313, 3) := by decide +kernel
theorem dX12_smash_13 : decode cX12_smash 13 = .ok (.ifCond .eq 11, 3) := by decide +kernel
theorem dX12_smash_16 : decode cX12_smash 16 = .ok (.aload_n 0, 1) := by decide +kernel
theorem dX12_smash_17 : decode cX12_smash 17 = .ok (.iload_n 1, 1) := by decide +kernel
theorem dX12_smash_18 : decode cX12_smash 18 = .ok (.invokevirtual 533, 3) := by decide +kernel
theorem dX12_smash_21 : decode cX12_smash 21 = .ok (.ifCond .eq 17, 3) := by decide +kernel
theorem dX12_smash_24 : decode cX12_smash 24 = .ok (.aload_n 0, 1) := by decide +kernel
theorem dX12_smash_25 : decode cX12_smash 25 = .ok (.iconst 3, 1) := by decide +kernel
theorem dX12_smash_26 : decode cX12_smash 26 = .ok (.invokevirtual 227, 3) := by decide +kernel
theorem dX12_smash_29 : decode cX12_smash 29 = .ok (.ifCond .lt 7, 3) := by decide +kernel
theorem dX12_smash_32 : decode cX12_smash 32 = .ok (.iconst 1, 1) := by decide +kernel
theorem dX12_smash_33 : decode cX12_smash 33 = .ok (.goto 4, 3) := by decide +kernel
theorem dX12_smash_36 : decode cX12_smash 36 = .ok (.iconst 0, 1) := by decide +kernel
theorem dX12_smash_37 : decode cX12_smash 37 = .ok (.ireturn, 1) := by decide +kernel
theorem dX12_smash_38 : decode cX12_smash 38 = .ok (.aload_n 0, 1) := by decide +kernel
theorem dX12_smash_39 : decode cX12_smash 39 = .ok (.invokevirtual 503, 3) := by decide +kernel
theorem dX12_smash_42 : decode cX12_smash 42 = .ok (.aload_n 0, 1) := by decide +kernel
theorem dX12_smash_43 : decode cX12_smash 43 = .ok (.sipush 368, 3) := by decide +kernel
theorem dX12_smash_46 : decode cX12_smash 46 = .ok (.iload_n 1, 1) := by decide +kernel
theorem dX12_smash_47 : decode cX12_smash 47 = .ok (.iadd, 1) := by decide +kernel
theorem dX12_smash_48 : decode cX12_smash 48 = .ok (.iconst 1, 1) := by decide +kernel
theorem dX12_smash_49 : decode cX12_smash 49 = .ok (.invokevirtual 450, 3) := by decide +kernel
theorem dX12_smash_52 : decode cX12_smash 52 = .ok (.iconst 1, 1) := by decide +kernel
theorem dX12_smash_53 : decode cX12_smash 53 = .ok (.ireturn, 1) := by decide +kernel
abbrev MX12_smash : MI := (RX12, cX12_smash, 2, 2, false)
def bX12_smash : St := (seqS (ifS (orX (notX (ne0 (calX decI (ckS 3) mX12_is (agC Value.int (lvI 1) (agC Value.int (ciI (iI 0)) (agC Value.int (subI (aldI 2 (getR 12 34 (lvR 0)) (ciI (iI 5))) (ciI (iI 1))) agN)))))) (ne0 (calX decI (ckV 12 1) mX12_isBroken (agC va_rf (lvR 0) (agC Value.int (lvI 1) agN))))) (retI (iteX (ge0 (calX decI (ckV 12 1) mX12_refuses (agC va_rf (lvR 0) (agC Value.int (ciI (iI 3)) agN)))) (ciI (iI 1)) (ciI (iI 0))))) (seqS (calS (ckV 12 0) mX12_keeps (agC va_rf (lvR 0) agN)) (seqS (calS (ckV 12 2) mX12_puts (agC va_rf (lvR 0) (agC Value.int (addI (ciI (iI 368)) (lvI 1)) (agC Value.int (ciI (iI 1)) agN)))) (retI (ciI (iI 1))))))
theorem jX12_smash : JS MX12_smash 0 0 0 54 [] bX12_smash :=
  (JS.seq (pc1 := 38) (JS.iff (l := 38) (pc1 := 24) (CJ.or_f (l := 24) (pc1 := 16) (CJ.not_t (CJ.ne0_f (tgt := 24) (pc1 := 13) (JX.call (pc1 := 10) decI_ok (JA.i (JX.il (k := 1) rfl dX12_smash_0) (JA.i (JX.ic (n := 0) rfl dX12_smash_1) (JA.i (JX.isub (pc1 := 8) (pc2 := 9) (JX.iald (pc1 := 6) (pc2 := 7) (JX.getR (pc1 := 3) (c := 12) (k := 34) (i := 117) (JX.al (k := 0) rfl dX12_smash_2) cl12 (by decide) rfl fk12_117 dX12_smash_3) (JX.ic (n := 5) rfl dX12_smash_6) dX12_smash_7) (JX.ic (n := 1) rfl dX12_smash_8) dX12_smash_9) JA.nil))) aX12_is (RunK.S (i := 313) (n := 3) (CN nX12_is (by decide) (by decide)) gw1589 gw1590 dX12_smash_10) (by decide)) dX12_smash_13 rfl)) (CJ.ne0_f (tgt := 38) (pc1 := 21) (JX.call (pc1 := 18) decI_ok (JA.r (JX.al (k := 0) rfl dX12_smash_16) (JA.i (JX.il (k := 1) rfl dX12_smash_17) JA.nil)) aX12_isBroken (RunK.V (i := 533) (c := 12) (n := 1) cl12 rfl (CN nX12_isBroken (by decide) (by decide)) gw1892 gw1894 gs120 dX12_smash_18) (by decide)) dX12_smash_21 rfl) (Or.inl rfl)) (JS.retI (pc1 := 37) (JX.ite (l := 36) (pc1 := 32) (pc2 := 33) (pc3 := 37) (lend := 37) (CJ.ge0_f (tgt := 36) (pc1 := 29) (JX.call (pc1 := 26) decI_ok (JA.r (JX.al (k := 0) rfl dX12_smash_24) (JA.i (JX.ic (n := 3) rfl dX12_smash_25) JA.nil)) aX12_refuses (RunK.V (i := 227) (c := 12) (n := 1) cl12 rfl (CN nX12_refuses (by decide) (by decide)) gw1530 gw1532 gs54 dX12_smash_26) (by decide)) dX12_smash_29 rfl) (JX.ic (n := 1) rfl dX12_smash_32) dX12_smash_33 rfl (JX.ic (n := 0) rfl dX12_smash_36) (Or.inl rfl)) dX12_smash_37) (Or.inl rfl)) (JS.seq (pc1 := 42) (JS.call (pc1 := 39) (JA.r (JX.al (k := 0) rfl dX12_smash_38) JA.nil) aX12_keeps (RunK.V (i := 503) (c := 12) (n := 0) cl12 rfl (CN nX12_keeps (by decide) (by decide)) gw1757 gw1759 gs91 dX12_smash_39)) (JS.seq (pc1 := 52) (JS.call (pc1 := 49) (JA.r (JX.al (k := 0) rfl dX12_smash_42) (JA.i (JX.iadd (pc1 := 46) (pc2 := 47) (JX.sp (n := 368) ks368 dX12_smash_43) (JX.il (k := 1) rfl dX12_smash_46) dX12_smash_47) (JA.i (JX.ic (n := 1) rfl dX12_smash_48) JA.nil))) aX12_puts (RunK.V (i := 450) (c := 12) (n := 2) cl12 rfl (CN nX12_puts (by decide) (by decide)) gw1816 gw1818 gs105 dX12_smash_49)) (JS.retI (pc1 := 53) (JX.ic (n := 1) rfl dX12_smash_52) dX12_smash_53))))
def mX12_smash : MS := runM 2 (some (.boolean)) bX12_smash
theorem aX12_smash : MA yX12_smash cX12_smash 2 (some (.boolean)) 2 mX12_smash := MA.of (plainFor_of_name (by decide)) jX12_smash
theorem eX12_smash (a0 : Nat) (a1 : Int32) (h : AH) : mX12_smash [.ref a0, .int a1] h = (bX12_smash [.val (.ref a0), .val (.int a1)] h).bind (finM (some (.boolean))) := rfl
/-! PieceStoreModel.seed -/
theorem dX12_seed_0 : decode cX12_seed 0 = .ok (.iload_n 1, 1) := by decide +kernel
theorem dX12_seed_1 : decode cX12_seed 1 = .ok (.ifCond .ge 17, 3) := by decide +kernel
theorem dX12_seed_4 : decode cX12_seed 4 = .ok (.aload_n 0, 1) := by decide +kernel
theorem dX12_seed_5 : decode cX12_seed 5 = .ok (.iconst 5, 1) := by decide +kernel
theorem dX12_seed_6 : decode cX12_seed 6 = .ok (.invokevirtual 227, 3) := by decide +kernel
theorem dX12_seed_9 : decode cX12_seed 9 = .ok (.ifCond .lt 7, 3) := by decide +kernel
theorem dX12_seed_12 : decode cX12_seed 12 = .ok (.iconst 1, 1) := by decide +kernel
theorem dX12_seed_13 : decode cX12_seed 13 = .ok (.goto 4, 3) := by decide +kernel
theorem dX12_seed_16 : decode cX12_seed 16 = .ok (.iconst 0, 1) := by decide +kernel
theorem dX12_seed_17 : decode cX12_seed 17 = .ok (.ireturn, 1) := by decide +kernel
theorem dX12_seed_18 : decode cX12_seed 18 = .ok (.aload_n 0, 1) := by decide +kernel
theorem dX12_seed_19 : decode cX12_seed 19 = .ok (.iload_n 1, 1) := by decide +kernel
theorem dX12_seed_20 : decode cX12_seed 20 = .ok (.i2l, 1) := by decide +kernel
theorem dX12_seed_21 : decode cX12_seed 21 = .ok (.putfield 136, 3) := by decide +kernel
theorem dX12_seed_24 : decode cX12_seed 24 = .ok (.iconst 1, 1) := by decide +kernel
theorem dX12_seed_25 : decode cX12_seed 25 = .ok (.ireturn, 1) := by decide +kernel
abbrev MX12_seed : MI := (RX12, cX12_seed, 2, 2, false)
def bX12_seed : St := (seqS (ifS (lt0 (lvI 1)) (retI (iteX (ge0 (calX decI (ckV 12 1) mX12_refuses (agC va_rf (lvR 0) (agC Value.int (ciI (iI 5)) agN)))) (ciI (iI 1)) (ciI (iI 0))))) (seqS (putL 12 40 (lvR 0) (i2L (lvI 1))) (retI (ciI (iI 1)))))
theorem jX12_seed : JS MX12_seed 0 0 0 26 [] bX12_seed :=
  (JS.seq (pc1 := 18) (JS.iff (l := 18) (pc1 := 4) (CJ.lt0_f (tgt := 18) (pc1 := 1) (JX.il (k := 1) rfl dX12_seed_0) dX12_seed_1 rfl) (JS.retI (pc1 := 17) (JX.ite (l := 16) (pc1 := 12) (pc2 := 13) (pc3 := 17) (lend := 17) (CJ.ge0_f (tgt := 16) (pc1 := 9) (JX.call (pc1 := 6) decI_ok (JA.r (JX.al (k := 0) rfl dX12_seed_4) (JA.i (JX.ic (n := 5) rfl dX12_seed_5) JA.nil)) aX12_refuses (RunK.V (i := 227) (c := 12) (n := 1) cl12 rfl (CN nX12_refuses (by decide) (by decide)) gw1530 gw1532 gs54 dX12_seed_6) (by decide)) dX12_seed_9 rfl) (JX.ic (n := 1) rfl dX12_seed_12) dX12_seed_13 rfl (JX.ic (n := 0) rfl dX12_seed_16) (Or.inl rfl)) dX12_seed_17) (Or.inl rfl)) (JS.seq (pc1 := 24) (JS.pL (pc1 := 19) (pc2 := 21) (c := 12) (k := 40) (i := 136) (JX.al (k := 0) rfl dX12_seed_18) (JX.i2l (pc1 := 20) (JX.il (k := 1) rfl dX12_seed_19) dX12_seed_20) cl12 (by decide) rfl fk12_136 (Or.inl rfl) dX12_seed_21) (JS.retI (pc1 := 25) (JX.ic (n := 1) rfl dX12_seed_24) dX12_seed_25)))
def mX12_seed : MS := runM 2 (some (.boolean)) bX12_seed
theorem aX12_seed : MA yX12_seed cX12_seed 2 (some (.boolean)) 2 mX12_seed := MA.of (plainFor_of_name (by decide)) jX12_seed
theorem eX12_seed (a0 : Nat) (a1 : Int32) (h : AH) : mX12_seed [.ref a0, .int a1] h = (bX12_seed [.val (.ref a0), .val (.int a1)] h).bind (finM (some (.boolean))) := rfl
/-! PieceStoreModel.kept -/
theorem dX12_kept_0 : decode cX12_kept 0 = .ok (.iload_n 1, 1) := by decide +kernel
theorem dX12_kept_1 : decode cX12_kept 1 = .ok (.iconst 0, 1) := by decide +kernel
theorem dX12_kept_2 : decode cX12_kept 2 = .ok (.aload_n 0, 1) := by decide +kernel
theorem dX12_kept_3 : decode cX12_kept 3 = .ok (.getfield 117, 3) := by decide +kernel
theorem dX12_kept_6 : decode cX12_kept 6 = .ok (.bipush 7, 2) := by decide +kernel
theorem dX12_kept_8 : decode cX12_kept 8 = .ok (.iaload, 1) := by decide +kernel
theorem dX12_kept_9 : decode cX12_kept 9 = .ok (.iconst 1, 1) := by decide +kernel
theorem dX12_kept_10 : decode cX12_kept 10 = .ok (.isub, 1) := by decide +kernel
theorem dX12_kept_11 : decode cX12_kept 11 = .ok (.invokestatic 313, 3) := by decide +kernel
theorem dX12_kept_14 : decode cX12_kept 14 = .ok (.ifCond .eq 29, 3) := by decide +kernel
theorem dX12_kept_17 : decode cX12_kept 17 = .ok (.iload_n 2, 1) := by decide +kernel
theorem dX12_kept_18 : decode cX12_kept 18 = .ok (.iconst 0, 1) := by decide +kernel
theorem dX12_kept_19 : decode cX12_kept 19 = .ok (.iconst 2, 1) := by decide +kernel
theorem dX12_kept_20 : decode cX12_kept 20 = .ok (.invokestatic 313, 3) := by decide +kernel
theorem dX12_kept_23 : decode cX12_kept 23 = .ok (.ifCond .eq 20, 3) := by decide +kernel
theorem dX12_kept_26 : decode cX12_kept 26 = .ok (.aload_n 0, 1) := by decide +kernel
theorem dX12_kept_27 : decode cX12_kept 27 = .ok (.getfield 117, 3) := by decide +kernel
theorem dX12_kept_30 : decode cX12_kept 30 = .ok (.sipush 678, 3) := by decide +kernel
theorem dX12_kept_33 : decode cX12_kept 33 = .ok (.iconst 3, 1) := by decide +kernel
theorem dX12_kept_34 : decode cX12_kept 34 = .ok (.iload_n 1, 1) := by decide +kernel
theorem dX12_kept_35 : decode cX12_kept 35 = .ok (.imul, 1) := by decide +kernel
theorem dX12_kept_36 : decode cX12_kept 36 = .ok (.iadd, 1) := by decide +kernel
theorem dX12_kept_37 : decode cX12_kept 37 = .ok (.iload_n 2, 1) := by decide +kernel
theorem dX12_kept_38 : decode cX12_kept 38 = .ok (.iadd, 1) := by decide +kernel
theorem dX12_kept_39 : decode cX12_kept 39 = .ok (.iaload, 1) := by decide +kernel
theorem dX12_kept_40 : decode cX12_kept 40 = .ok (.goto 4, 3) := by decide +kernel
theorem dX12_kept_43 : decode cX12_kept 43 = .ok (.iconst (-1), 1) := by decide +kernel
theorem dX12_kept_44 : decode cX12_kept 44 = .ok (.ireturn, 1) := by decide +kernel
abbrev MX12_kept : MI := (RX12, cX12_kept, 3, 2, false)
def bX12_kept : St := (retI (iteX (andX (ne0 (calX decI (ckS 3) mX12_is (agC Value.int (lvI 1) (agC Value.int (ciI (iI 0)) (agC Value.int (subI (aldI 2 (getR 12 34 (lvR 0)) (ciI (iI 7))) (ciI (iI 1))) agN))))) (ne0 (calX decI (ckS 3) mX12_is (agC Value.int (lvI 2) (agC Value.int (ciI (iI 0)) (agC Value.int (ciI (iI 2)) agN)))))) (aldI 2 (getR 12 34 (lvR 0)) (addI (addI (ciI (iI 678)) (mulI (ciI (iI 3)) (lvI 1))) (lvI 2))) (ciI (iI (-1)))))
theorem jX12_kept : JS MX12_kept 0 0 0 45 [] bX12_kept :=
  (JS.retI (pc1 := 44) (JX.ite (l := 43) (pc1 := 26) (pc2 := 40) (pc3 := 44) (lend := 44) (CJ.and_f (pc1 := 17) (CJ.ne0_f (tgt := 43) (pc1 := 14) (JX.call (pc1 := 11) decI_ok (JA.i (JX.il (k := 1) rfl dX12_kept_0) (JA.i (JX.ic (n := 0) rfl dX12_kept_1) (JA.i (JX.isub (pc1 := 9) (pc2 := 10) (JX.iald (pc1 := 6) (pc2 := 8) (JX.getR (pc1 := 3) (c := 12) (k := 34) (i := 117) (JX.al (k := 0) rfl dX12_kept_2) cl12 (by decide) rfl fk12_117 dX12_kept_3) (JX.bp (n := 7) kb7 dX12_kept_6) dX12_kept_8) (JX.ic (n := 1) rfl dX12_kept_9) dX12_kept_10) JA.nil))) aX12_is (RunK.S (i := 313) (n := 3) (CN nX12_is (by decide) (by decide)) gw1589 gw1590 dX12_kept_11) (by decide)) dX12_kept_14 rfl) (CJ.ne0_f (tgt := 43) (pc1 := 23) (JX.call (pc1 := 20) decI_ok (JA.i (JX.il (k := 2) rfl dX12_kept_17) (JA.i (JX.ic (n := 0) rfl dX12_kept_18) (JA.i (JX.ic (n := 2) rfl dX12_kept_19) JA.nil))) aX12_is (RunK.S (i := 313) (n := 3) (CN nX12_is (by decide) (by decide)) gw1589 gw1590 dX12_kept_20) (by decide)) dX12_kept_23 rfl)) (JX.iald (pc1 := 30) (pc2 := 39) (JX.getR (pc1 := 27) (c := 12) (k := 34) (i := 117) (JX.al (k := 0) rfl dX12_kept_26) cl12 (by decide) rfl fk12_117 dX12_kept_27) (JX.iadd (pc1 := 37) (pc2 := 38) (JX.iadd (pc1 := 33) (pc2 := 36) (JX.sp (n := 678) ks678 dX12_kept_30) (JX.imul (pc1 := 34) (pc2 := 35) (JX.ic (n := 3) rfl dX12_kept_33) (JX.il (k := 1) rfl dX12_kept_34) dX12_kept_35) dX12_kept_36) (JX.il (k := 2) rfl dX12_kept_37) dX12_kept_38) dX12_kept_39) dX12_kept_40 rfl (JX.ic (n := (-1)) rfl dX12_kept_43) (Or.inl rfl)) dX12_kept_44)
def mX12_kept : MS := runM 3 (some (.int)) bX12_kept
theorem aX12_kept : MA yX12_kept cX12_kept 3 (some (.int)) 2 mX12_kept := MA.of (plainFor_of_name (by decide)) jX12_kept
theorem eX12_kept (a0 : Nat) (a1 : Int32) (a2 : Int32) (h : AH) : mX12_kept [.ref a0, .int a1, .int a2] h = (bX12_kept [.val (.ref a0), .val (.int a1), .val (.int a2)] h).bind (finM (some (.int))) := rfl
