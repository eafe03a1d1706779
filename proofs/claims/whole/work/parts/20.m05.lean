/-! ===== by program: mk20.py: methods ===== -/
/-! Vault.countForeign -/
theorem dX10_countForeign_0 : decode cX10_countForeign 0 = .ok (.iconst 0, 1) := by decide +kernel
theorem dX10_countForeign_1 : decode cX10_countForeign 1 = .ok (.istore_n 2, 1) := by decide +kernel
theorem dX10_countForeign_2 : decode cX10_countForeign 2 = .ok (.iload_n 2, 1) := by decide +kernel
theorem dX10_countForeign_3 : decode cX10_countForeign 3 = .ok (.aload_n 0, 1) := by decide +kernel
theorem dX10_countForeign_4 : decode cX10_countForeign 4 = .ok (.getfield 64, 3) := by decide +kernel
theorem dX10_countForeign_7 : decode cX10_countForeign 7 = .ok (.getfield 111, 3) := by decide +kernel
theorem dX10_countForeign_10 : decode cX10_countForeign 10 = .ok (.iload_n 1, 1) := by decide +kernel
theorem dX10_countForeign_11 : decode cX10_countForeign 11 = .ok (.invokevirtual 114, 3) := by decide +kernel
theorem dX10_countForeign_14 : decode cX10_countForeign 14 = .ok (.if_icmp .ge 30, 3) := by decide +kernel
theorem dX10_countForeign_17 : decode cX10_countForeign 17 = .ok (.aload_n 0, 1) := by decide +kernel
theorem dX10_countForeign_18 : decode cX10_countForeign 18 = .ok (.getfield 28, 3) := by decide +kernel
theorem dX10_countForeign_21 : decode cX10_countForeign 21 = .ok (.getfield 165, 3) := by decide +kernel
theorem dX10_countForeign_24 : decode cX10_countForeign 24 = .ok (.aload_n 0, 1) := by decide +kernel
theorem dX10_countForeign_25 : decode cX10_countForeign 25 = .ok (.aload_n 0, 1) := by decide +kernel
theorem dX10_countForeign_26 : decode cX10_countForeign 26 = .ok (.iload_n 1, 1) := by decide +kernel
theorem dX10_countForeign_27 : decode cX10_countForeign 27 = .ok (.iload_n 2, 1) := by decide +kernel
theorem dX10_countForeign_28 : decode cX10_countForeign 28 = .ok (.invokevirtual 133, 3) := by decide +kernel
theorem dX10_countForeign_31 : decode cX10_countForeign 31 = .ok (.invokevirtual 127, 3) := by decide +kernel
theorem dX10_countForeign_34 : decode cX10_countForeign 34 = .ok (.iconst 1, 1) := by decide +kernel
theorem dX10_countForeign_35 : decode cX10_countForeign 35 = .ok (.invokevirtual 168, 3) := by decide +kernel
theorem dX10_countForeign_38 : decode cX10_countForeign 38 = .ok (.iinc 2 1, 3) := by decide +kernel
theorem dX10_countForeign_41 : decode cX10_countForeign 41 = .ok (.goto (-39), 3) := by decide +kernel
theorem dX10_countForeign_44 : decode cX10_countForeign 44 = .ok (.iconst 0, 1) := by decide +kernel
theorem dX10_countForeign_45 : decode cX10_countForeign 45 = .ok (.istore_n 2, 1) := by decide +kernel
theorem dX10_countForeign_46 : decode cX10_countForeign 46 = .ok (.iconst 0, 1) := by decide +kernel
theorem dX10_countForeign_47 : decode cX10_countForeign 47 = .ok (.istore_n 3, 1) := by decide +kernel
theorem dX10_countForeign_48 : decode cX10_countForeign 48 = .ok (.iload_n 3, 1) := by decide +kernel
theorem dX10_countForeign_49 : decode cX10_countForeign 49 = .ok (.aload_n 0, 1) := by decide +kernel
theorem dX10_countForeign_50 : decode cX10_countForeign 50 = .ok (.getfield 21, 3) := by decide +kernel
theorem dX10_countForeign_53 : decode cX10_countForeign 53 = .ok (.invokevirtual 171, 3) := by decide +kernel
theorem dX10_countForeign_56 : decode cX10_countForeign 56 = .ok (.if_icmp .ge 65, 3) := by decide +kernel
theorem dX10_countForeign_59 : decode cX10_countForeign 59 = .ok (.aload_n 0, 1) := by decide +kernel
theorem dX10_countForeign_60 : decode cX10_countForeign 60 = .ok (.getfield 28, 3) := by decide +kernel
theorem dX10_countForeign_63 : decode cX10_countForeign 63 = .ok (.aload_n 0, 1) := by decide +kernel
theorem dX10_countForeign_64 : decode cX10_countForeign 64 = .ok (.getfield 21, 3) := by decide +kernel
theorem dX10_countForeign_67 : decode cX10_countForeign 67 = .ok (.getfield 140, 3) := by decide +kernel
theorem dX10_countForeign_70 : decode cX10_countForeign 70 = .ok (.aload_n 0, 1) := by decide +kernel
theorem dX10_countForeign_71 : decode cX10_countForeign 71 = .ok (.getfield 21, 3) := by decide +kernel
theorem dX10_countForeign_74 : decode cX10_countForeign 74 = .ok (.iload_n 3, 1) := by decide +kernel
theorem dX10_countForeign_75 : decode cX10_countForeign 75 = .ok (.invokevirtual 174, 3) := by decide +kernel
theorem dX10_countForeign_78 : decode cX10_countForeign 78 = .ok (.aload_n 0, 1) := by decide +kernel
theorem dX10_countForeign_79 : decode cX10_countForeign 79 = .ok (.getfield 21, 3) := by decide +kernel
theorem dX10_countForeign_82 : decode cX10_countForeign 82 = .ok (.iload_n 3, 1) := by decide +kernel
theorem dX10_countForeign_83 : decode cX10_countForeign 83 = .ok (.invokevirtual 177, 3) := by decide +kernel
theorem dX10_countForeign_86 : decode cX10_countForeign 86 = .ok (.invokevirtual 180, 3) := by decide +kernel
theorem dX10_countForeign_89 : decode cX10_countForeign 89 = .ok (.istore 4, 2) := by decide +kernel
theorem dX10_countForeign_91 : decode cX10_countForeign 91 = .ok (.iload_n 2, 1) := by decide +kernel
theorem dX10_countForeign_92 : decode cX10_countForeign 92 = .ok (.aload_n 0, 1) := by decide +kernel
theorem dX10_countForeign_93 : decode cX10_countForeign 93 = .ok (.getfield 28, 3) := by decide +kernel
theorem dX10_countForeign_96 : decode cX10_countForeign 96 = .ok (.getfield 165, 3) := by decide +kernel
theorem dX10_countForeign_99 : decode cX10_countForeign 99 = .ok (.iload 4, 2) := by decide +kernel
theorem dX10_countForeign_101 : decode cX10_countForeign 101 = .ok (.invokevirtual 114, 3) := by decide +kernel
theorem dX10_countForeign_104 : decode cX10_countForeign 104 = .ok (.iconst 1, 1) := by decide +kernel
theorem dX10_countForeign_105 : decode cX10_countForeign 105 = .ok (.if_icmp .ne 7, 3) := by decide +kernel
theorem dX10_countForeign_108 : decode cX10_countForeign 108 = .ok (.iconst 0, 1) := by decide +kernel
theorem dX10_countForeign_109 : decode cX10_countForeign 109 = .ok (.goto 4, 3) := by decide +kernel
theorem dX10_countForeign_112 : decode cX10_countForeign 112 = .ok (.iconst 1, 1) := by decide +kernel
theorem dX10_countForeign_113 : decode cX10_countForeign 113 = .ok (.iadd, 1) := by decide +kernel
theorem dX10_countForeign_114 : decode cX10_countForeign 114 = .ok (.istore_n 2, 1) := by decide +kernel
theorem dX10_countForeign_115 : decode cX10_countForeign 115 = .ok (.iinc 3 1, 3) := by decide +kernel
theorem dX10_countForeign_118 : decode cX10_countForeign 118 = .ok (.goto (-70), 3) := by decide +kernel
theorem dX10_countForeign_121 : decode cX10_countForeign 121 = .ok (.iconst 0, 1) := by decide +kernel
theorem dX10_countForeign_122 : decode cX10_countForeign 122 = .ok (.istore_n 3, 1) := by decide +kernel
theorem dX10_countForeign_123 : decode cX10_countForeign 123 = .ok (.iload_n 3, 1) := by decide +kernel
theorem dX10_countForeign_124 : decode cX10_countForeign 124 = .ok (.aload_n 0, 1) := by decide +kernel
theorem dX10_countForeign_125 : decode cX10_countForeign 125 = .ok (.getfield 64, 3) := by decide +kernel
theorem dX10_countForeign_128 : decode cX10_countForeign 128 = .ok (.getfield 111, 3) := by decide +kernel
theorem dX10_countForeign_131 : decode cX10_countForeign 131 = .ok (.iload_n 1, 1) := by decide +kernel
theorem dX10_countForeign_132 : decode cX10_countForeign 132 = .ok (.invokevirtual 114, 3) := by decide +kernel
theorem dX10_countForeign_135 : decode cX10_countForeign 135 = .ok (.if_icmp .ge 30, 3) := by decide +kernel
theorem dX10_countForeign_138 : decode cX10_countForeign 138 = .ok (.aload_n 0, 1) := by decide +kernel
theorem dX10_countForeign_139 : decode cX10_countForeign 139 = .ok (.getfield 28, 3) := by decide +kernel
theorem dX10_countForeign_142 : decode cX10_countForeign 142 = .ok (.getfield 165, 3) := by decide +kernel
theorem dX10_countForeign_145 : decode cX10_countForeign 145 = .ok (.aload_n 0, 1) := by decide +kernel
theorem dX10_countForeign_146 : decode cX10_countForeign 146 = .ok (.aload_n 0, 1) := by decide +kernel
theorem dX10_countForeign_147 : decode cX10_countForeign 147 = .ok (.iload_n 1, 1) := by decide +kernel
theorem dX10_countForeign_148 : decode cX10_countForeign 148 = .ok (.iload_n 3, 1) := by decide +kernel
theorem dX10_countForeign_149 : decode cX10_countForeign 149 = .ok (.invokevirtual 133, 3) := by decide +kernel
theorem dX10_countForeign_152 : decode cX10_countForeign 152 = .ok (.invokevirtual 127, 3) := by decide +kernel
theorem dX10_countForeign_155 : decode cX10_countForeign 155 = .ok (.iconst 0, 1) := by decide +kernel
theorem dX10_countForeign_156 : decode cX10_countForeign 156 = .ok (.invokevirtual 168, 3) := by decide +kernel
theorem dX10_countForeign_159 : decode cX10_countForeign 159 = .ok (.iinc 3 1, 3) := by decide +kernel
theorem dX10_countForeign_162 : decode cX10_countForeign 162 = .ok (.goto (-39), 3) := by decide +kernel
theorem dX10_countForeign_165 : decode cX10_countForeign 165 = .ok (.iload_n 2, 1) := by decide +kernel
theorem dX10_countForeign_166 : decode cX10_countForeign 166 = .ok (.ireturn, 1) := by decide +kernel
abbrev MX10_countForeign : MI := (RX10, cX10_countForeign, 5, 4, false)
def lcX10_countForeign_1 : Ex Bool := (ltI (lvI 2) (calX decI (ckV 5 1) mX5_at (agC va_rf (getR 9 9 (getR 10 10 (lvR 0))) (agC Value.int (lvI 1) agN))))
def lbX10_countForeign_1 : St := (forB (calS (ckV 5 2) mX5_put (agC va_rf (getR 3 7 (getR 10 2 (lvR 0))) (agC Value.int (calX decI (ckV 10 1) mX10_formAt (agC va_rf (lvR 0) (agC Value.int (calX decI (ckV 10 2) mX10_spotOf (agC va_rf (lvR 0) (agC Value.int (lvI 1) (agC Value.int (lvI 2) agN)))) agN))) (agC Value.int (ciI (iI 1)) agN)))) (incI 2 (iI 1)))
def lcX10_countForeign_2 : Ex Bool := (ltI (lvI 3) (calX decI (ckV 1 0) mX1_count (agC va_rf (getR 10 1 (lvR 0)) agN)))
def lbX10_countForeign_2 : St := (forB (scS 4 (seqS (lsI 4 (calX decI (ckV 3 3) mX3_find (agC va_rf (getR 10 2 (lvR 0)) (agC va_rf (getR 1 0 (getR 10 1 (lvR 0))) (agC Value.int (calX decI (ckV 1 1) mX1_firstOf (agC va_rf (getR 10 1 (lvR 0)) (agC Value.int (lvI 3) agN))) (agC Value.int (calX decI (ckV 1 1) mX1_lengthOf (agC va_rf (getR 10 1 (lvR 0)) (agC Value.int (lvI 3) agN))) agN)))))) (lsI 2 (addI (lvI 2) (iteX (eqI (calX decI (ckV 5 1) mX5_at (agC va_rf (getR 3 7 (getR 10 2 (lvR 0))) (agC Value.int (lvI 4) agN))) (ciI (iI 1))) (ciI (iI 0)) (ciI (iI 1))))))) (incI 3 (iI 1)))
def lcX10_countForeign_3 : Ex Bool := (ltI (lvI 3) (calX decI (ckV 5 1) mX5_at (agC va_rf (getR 9 9 (getR 10 10 (lvR 0))) (agC Value.int (lvI 1) agN))))
def lbX10_countForeign_3 : St := (forB (calS (ckV 5 2) mX5_put (agC va_rf (getR 3 7 (getR 10 2 (lvR 0))) (agC Value.int (calX decI (ckV 10 1) mX10_formAt (agC va_rf (lvR 0) (agC Value.int (calX decI (ckV 10 2) mX10_spotOf (agC va_rf (lvR 0) (agC Value.int (lvI 1) (agC Value.int (lvI 3) agN)))) agN))) (agC Value.int (ciI (iI 0)) agN)))) (incI 3 (iI 1)))
def bX10_countForeign : St := (seqS (scS 2 (seqS (lsI 2 (ciI (iI 0))) (whileS lcX10_countForeign_1 lbX10_countForeign_1))) (seqS (lsI 2 (ciI (iI 0))) (seqS (scS 3 (seqS (lsI 3 (ciI (iI 0))) (whileS lcX10_countForeign_2 lbX10_countForeign_2))) (seqS (scS 3 (seqS (lsI 3 (ciI (iI 0))) (whileS lcX10_countForeign_3 lbX10_countForeign_3))) (retI (lvI 2))))))
theorem jX10_countForeign : JS MX10_countForeign 0 0 0 167 [] bX10_countForeign :=
  (JS.seq (pc1 := 44) (JS.sc (JS.seq (pc1 := 2) (JS.is (pc1 := 1) (k := 2) (JX.ic (n := 0) rfl dX10_countForeign_0) rfl (show 2 < 5 by decide) dX10_countForeign_1) (JS.while (l := 44) (lb := 44) (pc1 := 17) (pc2 := 41) (pc3 := 44) (CJ.lt_f (tgt := 44) (pc1 := 3) (pc2 := 14) (JX.il (k := 2) rfl dX10_countForeign_2) (JX.call (pc1 := 11) decI_ok (JA.r (JX.getR (pc1 := 7) (c := 9) (k := 9) (i := 111) (JX.getR (pc1 := 4) (c := 10) (k := 10) (i := 64) (JX.al (k := 0) rfl dX10_countForeign_3) cl10 (by decide) rfl fk10_64 dX10_countForeign_4) cl9 (by decide) rfl fk10_111 dX10_countForeign_7) (JA.i (JX.il (k := 1) rfl dX10_countForeign_10) JA.nil)) aX5_at (RunK.V (i := 114) (c := 5) (n := 1) cl5 rfl (CN nX5_at (by decide) (by decide)) gw774 gw595 gw596 dX10_countForeign_11) (by decide)) dX10_countForeign_14 rfl) (JS.forb (pc1 := 38) (JS.call (pc1 := 35) (JA.r (JX.getR (pc1 := 21) (c := 3) (k := 7) (i := 165) (JX.getR (pc1 := 18) (c := 10) (k := 2) (i := 28) (JX.al (k := 0) rfl dX10_countForeign_17) cl10 (by decide) rfl fk10_28 dX10_countForeign_18) cl3 (by decide) rfl fk10_165 dX10_countForeign_21) (JA.i (JX.call (pc1 := 31) decI_ok (JA.r (JX.al (k := 0) rfl dX10_countForeign_24) (JA.i (JX.call (pc1 := 28) decI_ok (JA.r (JX.al (k := 0) rfl dX10_countForeign_25) (JA.i (JX.il (k := 1) rfl dX10_countForeign_26) (JA.i (JX.il (k := 2) rfl dX10_countForeign_27) JA.nil))) aX10_spotOf (RunK.V (i := 133) (c := 10) (n := 2) cl10 rfl (CN nX10_spotOf (by decide) (by decide)) gw793 gw794 gw795 dX10_countForeign_28) (by decide)) JA.nil)) aX10_formAt (RunK.V (i := 127) (c := 10) (n := 1) cl10 rfl (CN nX10_formAt (by decide) (by decide)) gw817 gw818 gw819 dX10_countForeign_31) (by decide)) (JA.i (JX.ic (n := 1) rfl dX10_countForeign_34) JA.nil))) aX5_put (RunK.V (i := 168) (c := 5) (n := 2) cl5 rfl (CN nX5_put (by decide) (by decide)) gw797 gw599 gw600 dX10_countForeign_35)) (JS.inc (n := 1) rfl (show 2 < 5 by decide) dX10_countForeign_38)) dX10_countForeign_41 rfl (Or.inl rfl) (Or.inl rfl)))) (JS.seq (pc1 := 46) (JS.is (pc1 := 45) (k := 2) (JX.ic (n := 0) rfl dX10_countForeign_44) rfl (show 2 < 5 by decide) dX10_countForeign_45) (JS.seq (pc1 := 121) (JS.sc (JS.seq (pc1 := 48) (JS.is (pc1 := 47) (k := 3) (JX.ic (n := 0) rfl dX10_countForeign_46) rfl (show 3 < 5 by decide) dX10_countForeign_47) (JS.while (l := 121) (lb := 121) (pc1 := 59) (pc2 := 118) (pc3 := 121) (CJ.lt_f (tgt := 121) (pc1 := 49) (pc2 := 56) (JX.il (k := 3) rfl dX10_countForeign_48) (JX.call (pc1 := 53) decI_ok (JA.r (JX.getR (pc1 := 50) (c := 10) (k := 1) (i := 21) (JX.al (k := 0) rfl dX10_countForeign_49) cl10 (by decide) rfl fk10_21 dX10_countForeign_50) JA.nil) aX1_count (RunK.V (i := 171) (c := 1) (n := 0) cl1 rfl (CN nX1_count (by decide) (by decide)) gw968 gw941 gw942 dX10_countForeign_53) (by decide)) dX10_countForeign_56 rfl) (JS.forb (pc1 := 115) (JS.sc (JS.seq (pc1 := 91) (JS.is2 (pc1 := 89) (JX.call (pc1 := 86) decI_ok (JA.r (JX.getR (pc1 := 60) (c := 10) (k := 2) (i := 28) (JX.al (k := 0) rfl dX10_countForeign_59) cl10 (by decide) rfl fk10_28 dX10_countForeign_60) (JA.r (JX.getR (pc1 := 67) (c := 1) (k := 0) (i := 140) (JX.getR (pc1 := 64) (c := 10) (k := 1) (i := 21) (JX.al (k := 0) rfl dX10_countForeign_63) cl10 (by decide) rfl fk10_21 dX10_countForeign_64) cl1 (by decide) rfl fk10_140 dX10_countForeign_67) (JA.i (JX.call (pc1 := 75) decI_ok (JA.r (JX.getR (pc1 := 71) (c := 10) (k := 1) (i := 21) (JX.al (k := 0) rfl dX10_countForeign_70) cl10 (by decide) rfl fk10_21 dX10_countForeign_71) (JA.i (JX.il (k := 3) rfl dX10_countForeign_74) JA.nil)) aX1_firstOf (RunK.V (i := 174) (c := 1) (n := 1) cl1 rfl (CN nX1_firstOf (by decide) (by decide)) gw969 gw949 gw950 dX10_countForeign_75) (by decide)) (JA.i (JX.call (pc1 := 83) decI_ok (JA.r (JX.getR (pc1 := 79) (c := 10) (k := 1) (i := 21) (JX.al (k := 0) rfl dX10_countForeign_78) cl10 (by decide) rfl fk10_21 dX10_countForeign_79) (JA.i (JX.il (k := 3) rfl dX10_countForeign_82) JA.nil)) aX1_lengthOf (RunK.V (i := 177) (c := 1) (n := 1) cl1 rfl (CN nX1_lengthOf (by decide) (by decide)) gw970 gw945 gw946 dX10_countForeign_83) (by decide)) JA.nil)))) aX3_find (RunK.V (i := 180) (c := 3) (n := 3) cl3 rfl (CN nX3_find (by decide) (by decide)) gw971 gw972 gw973 dX10_countForeign_86) (by decide)) (show 4 < 5 by decide) dX10_countForeign_89) (JS.is (pc1 := 114) (k := 2) (JX.iadd (pc1 := 92) (pc2 := 113) (JX.il (k := 2) rfl dX10_countForeign_91) (JX.ite (l := 112) (pc1 := 108) (pc2 := 109) (pc3 := 113) (lend := 113) (CJ.eq_f (tgt := 112) (pc1 := 104) (pc2 := 105) (JX.call (pc1 := 101) decI_ok (JA.r (JX.getR (pc1 := 96) (c := 3) (k := 7) (i := 165) (JX.getR (pc1 := 93) (c := 10) (k := 2) (i := 28) (JX.al (k := 0) rfl dX10_countForeign_92) cl10 (by decide) rfl fk10_28 dX10_countForeign_93) cl3 (by decide) rfl fk10_165 dX10_countForeign_96) (JA.i (JX.il2 dX10_countForeign_99) JA.nil)) aX5_at (RunK.V (i := 114) (c := 5) (n := 1) cl5 rfl (CN nX5_at (by decide) (by decide)) gw774 gw595 gw596 dX10_countForeign_101) (by decide)) (JX.ic (n := 1) rfl dX10_countForeign_104) dX10_countForeign_105 rfl) (JX.ic (n := 0) rfl dX10_countForeign_108) dX10_countForeign_109 rfl (JX.ic (n := 1) rfl dX10_countForeign_112) (Or.inl rfl)) dX10_countForeign_113) rfl (show 2 < 5 by decide) dX10_countForeign_114))) (JS.inc (n := 1) rfl (show 3 < 5 by decide) dX10_countForeign_115)) dX10_countForeign_118 rfl (Or.inl rfl) (Or.inl rfl)))) (JS.seq (pc1 := 165) (JS.sc (JS.seq (pc1 := 123) (JS.is (pc1 := 122) (k := 3) (JX.ic (n := 0) rfl dX10_countForeign_121) rfl (show 3 < 5 by decide) dX10_countForeign_122) (JS.while (l := 165) (lb := 165) (pc1 := 138) (pc2 := 162) (pc3 := 165) (CJ.lt_f (tgt := 165) (pc1 := 124) (pc2 := 135) (JX.il (k := 3) rfl dX10_countForeign_123) (JX.call (pc1 := 132) decI_ok (JA.r (JX.getR (pc1 := 128) (c := 9) (k := 9) (i := 111) (JX.getR (pc1 := 125) (c := 10) (k := 10) (i := 64) (JX.al (k := 0) rfl dX10_countForeign_124) cl10 (by decide) rfl fk10_64 dX10_countForeign_125) cl9 (by decide) rfl fk10_111 dX10_countForeign_128) (JA.i (JX.il (k := 1) rfl dX10_countForeign_131) JA.nil)) aX5_at (RunK.V (i := 114) (c := 5) (n := 1) cl5 rfl (CN nX5_at (by decide) (by decide)) gw774 gw595 gw596 dX10_countForeign_132) (by decide)) dX10_countForeign_135 rfl) (JS.forb (pc1 := 159) (JS.call (pc1 := 156) (JA.r (JX.getR (pc1 := 142) (c := 3) (k := 7) (i := 165) (JX.getR (pc1 := 139) (c := 10) (k := 2) (i := 28) (JX.al (k := 0) rfl dX10_countForeign_138) cl10 (by decide) rfl fk10_28 dX10_countForeign_139) cl3 (by decide) rfl fk10_165 dX10_countForeign_142) (JA.i (JX.call (pc1 := 152) decI_ok (JA.r (JX.al (k := 0) rfl dX10_countForeign_145) (JA.i (JX.call (pc1 := 149) decI_ok (JA.r (JX.al (k := 0) rfl dX10_countForeign_146) (JA.i (JX.il (k := 1) rfl dX10_countForeign_147) (JA.i (JX.il (k := 3) rfl dX10_countForeign_148) JA.nil))) aX10_spotOf (RunK.V (i := 133) (c := 10) (n := 2) cl10 rfl (CN nX10_spotOf (by decide) (by decide)) gw793 gw794 gw795 dX10_countForeign_149) (by decide)) JA.nil)) aX10_formAt (RunK.V (i := 127) (c := 10) (n := 1) cl10 rfl (CN nX10_formAt (by decide) (by decide)) gw817 gw818 gw819 dX10_countForeign_152) (by decide)) (JA.i (JX.ic (n := 0) rfl dX10_countForeign_155) JA.nil))) aX5_put (RunK.V (i := 168) (c := 5) (n := 2) cl5 rfl (CN nX5_put (by decide) (by decide)) gw797 gw599 gw600 dX10_countForeign_156)) (JS.inc (n := 1) rfl (show 3 < 5 by decide) dX10_countForeign_159)) dX10_countForeign_162 rfl (Or.inl rfl) (Or.inl rfl)))) (JS.retI (pc1 := 166) (JX.il (k := 2) rfl dX10_countForeign_165) dX10_countForeign_166)))))
def mX10_countForeign : MS := runM 5 (some (.int)) bX10_countForeign
theorem aX10_countForeign : MA yX10_countForeign cX10_countForeign 5 (some (.int)) 4 mX10_countForeign := MA.of (plainFor_of_name (by decide)) jX10_countForeign
theorem eX10_countForeign (a0 : Nat) (a1 : Int32) (h : AH) : mX10_countForeign [.ref a0, .int a1] h = (bX10_countForeign [.val (.ref a0), .val (.int a1), .unset, .unset, .unset] h).bind (finM (some (.int))) := rfl
/-! PieceStore.edit -/
theorem dX11_edit_0 : decode cX11_edit 0 = .ok (.aload_n 0, 1) := by decide +kernel
theorem dX11_edit_1 : decode cX11_edit 1 = .ok (.getfield 29, 3) := by decide +kernel
theorem dX11_edit_4 : decode cX11_edit 4 = .ok (.iload_n 1, 1) := by decide +kernel
theorem dX11_edit_5 : decode cX11_edit 5 = .ok (.invokevirtual 154, 3) := by decide +kernel
theorem dX11_edit_8 : decode cX11_edit 8 = .ok (.ifCond .eq 14, 3) := by decide +kernel
theorem dX11_edit_11 : decode cX11_edit 11 = .ok (.iload_n 3, 1) := by decide +kernel
theorem dX11_edit_12 : decode cX11_edit 12 = .ok (.ifCond .lt 10, 3) := by decide +kernel
theorem dX11_edit_15 : decode cX11_edit 15 = .ok (.iload_n 3, 1) := by decide +kernel
theorem dX11_edit_16 : decode cX11_edit 16 = .ok (.sipush 255, 3) := by decide +kernel
theorem dX11_edit_19 : decode cX11_edit 19 = .ok (.if_icmp .le 5, 3) := by decide +kernel
theorem dX11_edit_22 : decode cX11_edit 22 = .ok (.iconst (-1), 1) := by decide +kernel
theorem dX11_edit_23 : decode cX11_edit 23 = .ok (.ireturn, 1) := by decide +kernel
theorem dX11_edit_24 : decode cX11_edit 24 = .ok (.aload_n 0, 1) := by decide +kernel
theorem dX11_edit_25 : decode cX11_edit 25 = .ok (.getfield 29, 3) := by decide +kernel
theorem dX11_edit_28 : decode cX11_edit 28 = .ok (.iload_n 1, 1) := by decide +kernel
theorem dX11_edit_29 : decode cX11_edit 29 = .ok (.invokevirtual 200, 3) := by decide +kernel
theorem dX11_edit_32 : decode cX11_edit 32 = .ok (.iload_n 2, 1) := by decide +kernel
theorem dX11_edit_33 : decode cX11_edit 33 = .ok (.ifCond .lt 20, 3) := by decide +kernel
theorem dX11_edit_36 : decode cX11_edit 36 = .ok (.iload_n 2, 1) := by decide +kernel
theorem dX11_edit_37 : decode cX11_edit 37 = .ok (.aload_n 0, 1) := by decide +kernel
theorem dX11_edit_38 : decode cX11_edit 38 = .ok (.getfield 29, 3) := by decide +kernel
theorem dX11_edit_41 : decode cX11_edit 41 = .ok (.getfield 203, 3) := by decide +kernel
theorem dX11_edit_44 : decode cX11_edit 44 = .ok (.getfield 207, 3) := by decide +kernel
theorem dX11_edit_47 : decode cX11_edit 47 = .ok (.invokevirtual 69, 3) := by decide +kernel
theorem dX11_edit_50 : decode cX11_edit 50 = .ok (.if_icmp .lt 5, 3) := by decide +kernel
theorem dX11_edit_53 : decode cX11_edit 53 = .ok (.iconst (-1), 1) := by decide +kernel
theorem dX11_edit_54 : decode cX11_edit 54 = .ok (.ireturn, 1) := by decide +kernel
theorem dX11_edit_55 : decode cX11_edit 55 = .ok (.aload_n 0, 1) := by decide +kernel
theorem dX11_edit_56 : decode cX11_edit 56 = .ok (.getfield 29, 3) := by decide +kernel
theorem dX11_edit_59 : decode cX11_edit 59 = .ok (.getfield 203, 3) := by decide +kernel
theorem dX11_edit_62 : decode cX11_edit 62 = .ok (.getfield 207, 3) := by decide +kernel
theorem dX11_edit_65 : decode cX11_edit 65 = .ok (.iload_n 2, 1) := by decide +kernel
theorem dX11_edit_66 : decode cX11_edit 66 = .ok (.iload_n 3, 1) := by decide +kernel
theorem dX11_edit_67 : decode cX11_edit 67 = .ok (.invokevirtual 228, 3) := by decide +kernel
theorem dX11_edit_70 : decode cX11_edit 70 = .ok (.aload_n 0, 1) := by decide +kernel
theorem dX11_edit_71 : decode cX11_edit 71 = .ok (.getfield 29, 3) := by decide +kernel
theorem dX11_edit_74 : decode cX11_edit 74 = .ok (.invokevirtual 216, 3) := by decide +kernel
theorem dX11_edit_77 : decode cX11_edit 77 = .ok (.aload_n 0, 1) := by decide +kernel
theorem dX11_edit_78 : decode cX11_edit 78 = .ok (.getfield 29, 3) := by decide +kernel
theorem dX11_edit_81 : decode cX11_edit 81 = .ok (.iload_n 1, 1) := by decide +kernel
theorem dX11_edit_82 : decode cX11_edit 82 = .ok (.invokevirtual 231, 3) := by decide +kernel
theorem dX11_edit_85 : decode cX11_edit 85 = .ok (.ireturn, 1) := by decide +kernel
abbrev MX11_edit : MI := (RX11, cX11_edit, 4, 7, false)
def bX11_edit : St := (seqS (ifS (orX (orX (notX (ne0 (calX decI (ckV 10 1) mX10_hasBackup (agC va_rf (getR 11 3 (lvR 0)) (agC Value.int (lvI 1) agN))))) (lt0 (lvI 3))) (gtI (lvI 3) (ciI (iI 255)))) (retI (ciI (iI (-1))))) (seqS (calS (ckV 10 1) mX10_layOut (agC va_rf (getR 11 3 (lvR 0)) (agC Value.int (lvI 1) agN))) (seqS (ifS (orX (lt0 (lvI 2)) (geI (lvI 2) (calX decI (ckV 5 0) mX5_size (agC va_rf (getR 1 0 (getR 10 1 (getR 11 3 (lvR 0)))) agN)))) (retI (ciI (iI (-1))))) (seqS (calS (ckV 5 2) mX5_put (agC va_rf (getR 1 0 (getR 10 1 (getR 11 3 (lvR 0)))) (agC Value.int (lvI 2) (agC Value.int (lvI 3) agN)))) (seqS (calS (ckV 10 0) mX10_cutFile (agC va_rf (getR 11 3 (lvR 0)) agN)) (retI (calX decI (ckV 10 1) mX10_countForeign (agC va_rf (getR 11 3 (lvR 0)) (agC Value.int (lvI 1) agN)))))))))
theorem jX11_edit : JS MX11_edit 0 0 0 86 [] bX11_edit :=
  (JS.seq (pc1 := 24) (JS.iff (l := 24) (pc1 := 22) (CJ.or_f (l := 22) (pc1 := 15) (CJ.or_t (pc1 := 11) (CJ.not_t (CJ.ne0_f (tgt := 22) (pc1 := 8) (JX.call (pc1 := 5) decI_ok (JA.r (JX.getR (pc1 := 1) (c := 11) (k := 3) (i := 29) (JX.al (k := 0) rfl dX11_edit_0) cl11 (by decide) rfl fk11_29 dX11_edit_1) (JA.i (JX.il (k := 1) rfl dX11_edit_4) JA.nil)) aX10_hasBackup (RunK.V (i := 154) (c := 10) (n := 1) cl10 rfl (CN nX10_hasBackup (by decide) (by decide)) gw808 gw771 gw772 dX11_edit_5) (by decide)) dX11_edit_8 rfl)) (CJ.lt0_t (tgt := 22) (pc1 := 12) (JX.il (k := 3) rfl dX11_edit_11) dX11_edit_12 rfl)) (CJ.gt_f (tgt := 24) (pc1 := 16) (pc2 := 19) (JX.il (k := 3) rfl dX11_edit_15) (JX.sp (n := 255) ks255 dX11_edit_16) dX11_edit_19 rfl) (Or.inl rfl)) (JS.retI (pc1 := 23) (JX.ic (n := (-1)) rfl dX11_edit_22) dX11_edit_23) (Or.inl rfl)) (JS.seq (pc1 := 32) (JS.call (pc1 := 29) (JA.r (JX.getR (pc1 := 25) (c := 11) (k := 3) (i := 29) (JX.al (k := 0) rfl dX11_edit_24) cl11 (by decide) rfl fk11_29 dX11_edit_25) (JA.i (JX.il (k := 1) rfl dX11_edit_28) JA.nil)) aX10_layOut (RunK.V (i := 200) (c := 10) (n := 1) cl10 rfl (CN nX10_layOut (by decide) (by decide)) gw897 gw898 gw899 dX11_edit_29)) (JS.seq (pc1 := 55) (JS.iff (l := 55) (pc1 := 53) (CJ.or_f (l := 53) (pc1 := 36) (CJ.lt0_t (tgt := 53) (pc1 := 33) (JX.il (k := 2) rfl dX11_edit_32) dX11_edit_33 rfl) (CJ.ge_f (tgt := 55) (pc1 := 37) (pc2 := 50) (JX.il (k := 2) rfl dX11_edit_36) (JX.call (pc1 := 47) decI_ok (JA.r (JX.getR (pc1 := 44) (c := 1) (k := 0) (i := 207) (JX.getR (pc1 := 41) (c := 10) (k := 1) (i := 203) (JX.getR (pc1 := 38) (c := 11) (k := 3) (i := 29) (JX.al (k := 0) rfl dX11_edit_37) cl11 (by decide) rfl fk11_29 dX11_edit_38) cl10 (by decide) rfl fk11_203 dX11_edit_41) cl1 (by decide) rfl fk11_207 dX11_edit_44) JA.nil) aX5_size (RunK.V (i := 69) (c := 5) (n := 0) cl5 rfl (CN nX5_size (by decide) (by decide)) gw586 gw587 gw588 dX11_edit_47) (by decide)) dX11_edit_50 rfl) (Or.inl rfl)) (JS.retI (pc1 := 54) (JX.ic (n := (-1)) rfl dX11_edit_53) dX11_edit_54) (Or.inl rfl)) (JS.seq (pc1 := 70) (JS.call (pc1 := 67) (JA.r (JX.getR (pc1 := 62) (c := 1) (k := 0) (i := 207) (JX.getR (pc1 := 59) (c := 10) (k := 1) (i := 203) (JX.getR (pc1 := 56) (c := 11) (k := 3) (i := 29) (JX.al (k := 0) rfl dX11_edit_55) cl11 (by decide) rfl fk11_29 dX11_edit_56) cl10 (by decide) rfl fk11_203 dX11_edit_59) cl1 (by decide) rfl fk11_207 dX11_edit_62) (JA.i (JX.il (k := 2) rfl dX11_edit_65) (JA.i (JX.il (k := 3) rfl dX11_edit_66) JA.nil))) aX5_put (RunK.V (i := 228) (c := 5) (n := 2) cl5 rfl (CN nX5_put (by decide) (by decide)) gw598 gw599 gw600 dX11_edit_67)) (JS.seq (pc1 := 77) (JS.call (pc1 := 74) (JA.r (JX.getR (pc1 := 71) (c := 11) (k := 3) (i := 29) (JX.al (k := 0) rfl dX11_edit_70) cl11 (by decide) rfl fk11_29 dX11_edit_71) JA.nil) aX10_cutFile (RunK.V (i := 216) (c := 10) (n := 0) cl10 rfl (CN nX10_cutFile (by decide) (by decide)) gw921 gw922 gw923 dX11_edit_74)) (JS.retI (pc1 := 85) (JX.call (pc1 := 82) decI_ok (JA.r (JX.getR (pc1 := 78) (c := 11) (k := 3) (i := 29) (JX.al (k := 0) rfl dX11_edit_77) cl11 (by decide) rfl fk11_29 dX11_edit_78) (JA.i (JX.il (k := 1) rfl dX11_edit_81) JA.nil)) aX10_countForeign (RunK.V (i := 231) (c := 10) (n := 1) cl10 rfl (CN nX10_countForeign (by decide) (by decide)) gw964 gw965 gw966 dX11_edit_82) (by decide)) dX11_edit_85))))))
def mX11_edit : MS := runM 4 (some (.int)) bX11_edit
theorem aX11_edit : MA yX11_edit cX11_edit 4 (some (.int)) 7 mX11_edit := MA.of (plainFor_of_name (by decide)) jX11_edit
theorem eX11_edit (a0 : Nat) (a1 : Int32) (a2 : Int32) (a3 : Int32) (h : AH) : mX11_edit [.ref a0, .int a1, .int a2, .int a3] h = (bX11_edit [.val (.ref a0), .val (.int a1), .val (.int a2), .val (.int a3)] h).bind (finM (some (.int))) := rfl
/-! Vault.lostAt -/
theorem dX10_lostAt_0 : decode cX10_lostAt 0 = .ok (.iconst 0, 1) := by decide +kernel
theorem dX10_lostAt_1 : decode cX10_lostAt 1 = .ok (.istore_n 2, 1) := by decide +kernel
theorem dX10_lostAt_2 : decode cX10_lostAt 2 = .ok (.iload_n 2, 1) := by decide +kernel
theorem dX10_lostAt_3 : decode cX10_lostAt 3 = .ok (.aload_n 0, 1) := by decide +kernel
theorem dX10_lostAt_4 : decode cX10_lostAt 4 = .ok (.getfield 64, 3) := by decide +kernel
theorem dX10_lostAt_7 : decode cX10_lostAt 7 = .ok (.getfield 111, 3) := by decide +kernel
theorem dX10_lostAt_10 : decode cX10_lostAt 10 = .ok (.iload_n 1, 1) := by decide +kernel
theorem dX10_lostAt_11 : decode cX10_lostAt 11 = .ok (.invokevirtual 114, 3) := by decide +kernel
theorem dX10_lostAt_14 : decode cX10_lostAt 14 = .ok (.if_icmp .ge 58, 3) := by decide +kernel
theorem dX10_lostAt_17 : decode cX10_lostAt 17 = .ok (.aload_n 0, 1) := by decide +kernel
theorem dX10_lostAt_18 : decode cX10_lostAt 18 = .ok (.iload_n 1, 1) := by decide +kernel
theorem dX10_lostAt_19 : decode cX10_lostAt 19 = .ok (.iload_n 2, 1) := by decide +kernel
theorem dX10_lostAt_20 : decode cX10_lostAt 20 = .ok (.invokevirtual 133, 3) := by decide +kernel
theorem dX10_lostAt_23 : decode cX10_lostAt 23 = .ok (.istore_n 3, 1) := by decide +kernel
theorem dX10_lostAt_24 : decode cX10_lostAt 24 = .ok (.aload_n 0, 1) := by decide +kernel
theorem dX10_lostAt_25 : decode cX10_lostAt 25 = .ok (.getfield 64, 3) := by decide +kernel
theorem dX10_lostAt_28 : decode cX10_lostAt 28 = .ok (.getfield 210, 3) := by decide +kernel
theorem dX10_lostAt_31 : decode cX10_lostAt 31 = .ok (.iload_n 3, 1) := by decide +kernel
theorem dX10_lostAt_32 : decode cX10_lostAt 32 = .ok (.invokevirtual 114, 3) := by decide +kernel
theorem dX10_lostAt_35 : decode cX10_lostAt 35 = .ok (.iconst 1, 1) := by decide +kernel
theorem dX10_lostAt_36 : decode cX10_lostAt 36 = .ok (.if_icmp .eq 28, 3) := by decide +kernel
theorem dX10_lostAt_39 : decode cX10_lostAt 39 = .ok (.aload_n 0, 1) := by decide +kernel
theorem dX10_lostAt_40 : decode cX10_lostAt 40 = .ok (.getfield 64, 3) := by decide +kernel
theorem dX10_lostAt_43 : decode cX10_lostAt 43 = .ok (.getfield 213, 3) := by decide +kernel
theorem dX10_lostAt_46 : decode cX10_lostAt 46 = .ok (.aload_n 0, 1) := by decide +kernel
theorem dX10_lostAt_47 : decode cX10_lostAt 47 = .ok (.getfield 64, 3) := by decide +kernel
theorem dX10_lostAt_50 : decode cX10_lostAt 50 = .ok (.getfield 216, 3) := by decide +kernel
theorem dX10_lostAt_53 : decode cX10_lostAt 53 = .ok (.iload_n 3, 1) := by decide +kernel
theorem dX10_lostAt_54 : decode cX10_lostAt 54 = .ok (.invokevirtual 114, 3) := by decide +kernel
theorem dX10_lostAt_57 : decode cX10_lostAt 57 = .ok (.invokevirtual 114, 3) := by decide +kernel
theorem dX10_lostAt_60 : decode cX10_lostAt 60 = .ok (.iconst 1, 1) := by decide +kernel
theorem dX10_lostAt_61 : decode cX10_lostAt 61 = .ok (.if_icmp .ne 5, 3) := by decide +kernel
theorem dX10_lostAt_64 : decode cX10_lostAt 64 = .ok (.iload_n 2, 1) := by decide +kernel
theorem dX10_lostAt_65 : decode cX10_lostAt 65 = .ok (.ireturn, 1) := by decide +kernel
theorem dX10_lostAt_66 : decode cX10_lostAt 66 = .ok (.iinc 2 1, 3) := by decide +kernel
theorem dX10_lostAt_69 : decode cX10_lostAt 69 = .ok (.goto (-67), 3) := by decide +kernel
theorem dX10_lostAt_72 : decode cX10_lostAt 72 = .ok (.iconst (-1), 1) := by decide +kernel
theorem dX10_lostAt_73 : decode cX10_lostAt 73 = .ok (.ireturn, 1) := by decide +kernel
abbrev MX10_lostAt : MI := (RX10, cX10_lostAt, 4, 3, false)
def lcX10_lostAt_1 : Ex Bool := (ltI (lvI 2) (calX decI (ckV 5 1) mX5_at (agC va_rf (getR 9 9 (getR 10 10 (lvR 0))) (agC Value.int (lvI 1) agN))))
def lbX10_lostAt_1 : St := (forB (scS 3 (seqS (lsI 3 (calX decI (ckV 10 2) mX10_spotOf (agC va_rf (lvR 0) (agC Value.int (lvI 1) (agC Value.int (lvI 2) agN))))) (ifS (orX (eqI (calX decI (ckV 5 1) mX5_at (agC va_rf (getR 9 1 (getR 10 10 (lvR 0))) (agC Value.int (lvI 3) agN))) (ciI (iI 1))) (eqI (calX decI (ckV 5 1) mX5_at (agC va_rf (getR 9 6 (getR 10 10 (lvR 0))) (agC Value.int (calX decI (ckV 5 1) mX5_at (agC va_rf (getR 9 2 (getR 10 10 (lvR 0))) (agC Value.int (lvI 3) agN))) agN))) (ciI (iI 1)))) (retI (lvI 2))))) (incI 2 (iI 1)))
def bX10_lostAt : St := (seqS (scS 2 (seqS (lsI 2 (ciI (iI 0))) (whileS lcX10_lostAt_1 lbX10_lostAt_1))) (retI (ciI (iI (-1)))))
theorem jX10_lostAt : JS MX10_lostAt 0 0 0 74 [] bX10_lostAt :=
  (JS.seq (pc1 := 72) (JS.sc (JS.seq (pc1 := 2) (JS.is (pc1 := 1) (k := 2) (JX.ic (n := 0) rfl dX10_lostAt_0) rfl (show 2 < 4 by decide) dX10_lostAt_1) (JS.while (l := 72) (lb := 72) (pc1 := 17) (pc2 := 69) (pc3 := 72) (CJ.lt_f (tgt := 72) (pc1 := 3) (pc2 := 14) (JX.il (k := 2) rfl dX10_lostAt_2) (JX.call (pc1 := 11) decI_ok (JA.r (JX.getR (pc1 := 7) (c := 9) (k := 9) (i := 111) (JX.getR (pc1 := 4) (c := 10) (k := 10) (i := 64) (JX.al (k := 0) rfl dX10_lostAt_3) cl10 (by decide) rfl fk10_64 dX10_lostAt_4) cl9 (by decide) rfl fk10_111 dX10_lostAt_7) (JA.i (JX.il (k := 1) rfl dX10_lostAt_10) JA.nil)) aX5_at (RunK.V (i := 114) (c := 5) (n := 1) cl5 rfl (CN nX5_at (by decide) (by decide)) gw774 gw595 gw596 dX10_lostAt_11) (by decide)) dX10_lostAt_14 rfl) (JS.forb (pc1 := 66) (JS.sc (JS.seq (pc1 := 24) (JS.is (pc1 := 23) (k := 3) (JX.call (pc1 := 20) decI_ok (JA.r (JX.al (k := 0) rfl dX10_lostAt_17) (JA.i (JX.il (k := 1) rfl dX10_lostAt_18) (JA.i (JX.il (k := 2) rfl dX10_lostAt_19) JA.nil))) aX10_spotOf (RunK.V (i := 133) (c := 10) (n := 2) cl10 rfl (CN nX10_spotOf (by decide) (by decide)) gw793 gw794 gw795 dX10_lostAt_20) (by decide)) rfl (show 3 < 4 by decide) dX10_lostAt_23) (JS.iff (l := 66) (pc1 := 64) (CJ.or_f (l := 64) (pc1 := 39) (CJ.eq_t (tgt := 64) (pc1 := 35) (pc2 := 36) (JX.call (pc1 := 32) decI_ok (JA.r (JX.getR (pc1 := 28) (c := 9) (k := 1) (i := 210) (JX.getR (pc1 := 25) (c := 10) (k := 10) (i := 64) (JX.al (k := 0) rfl dX10_lostAt_24) cl10 (by decide) rfl fk10_64 dX10_lostAt_25) cl9 (by decide) rfl fk10_210 dX10_lostAt_28) (JA.i (JX.il (k := 3) rfl dX10_lostAt_31) JA.nil)) aX5_at (RunK.V (i := 114) (c := 5) (n := 1) cl5 rfl (CN nX5_at (by decide) (by decide)) gw774 gw595 gw596 dX10_lostAt_32) (by decide)) (JX.ic (n := 1) rfl dX10_lostAt_35) dX10_lostAt_36 rfl) (CJ.eq_f (tgt := 66) (pc1 := 60) (pc2 := 61) (JX.call (pc1 := 57) decI_ok (JA.r (JX.getR (pc1 := 43) (c := 9) (k := 6) (i := 213) (JX.getR (pc1 := 40) (c := 10) (k := 10) (i := 64) (JX.al (k := 0) rfl dX10_lostAt_39) cl10 (by decide) rfl fk10_64 dX10_lostAt_40) cl9 (by decide) rfl fk10_213 dX10_lostAt_43) (JA.i (JX.call (pc1 := 54) decI_ok (JA.r (JX.getR (pc1 := 50) (c := 9) (k := 2) (i := 216) (JX.getR (pc1 := 47) (c := 10) (k := 10) (i := 64) (JX.al (k := 0) rfl dX10_lostAt_46) cl10 (by decide) rfl fk10_64 dX10_lostAt_47) cl9 (by decide) rfl fk10_216 dX10_lostAt_50) (JA.i (JX.il (k := 3) rfl dX10_lostAt_53) JA.nil)) aX5_at (RunK.V (i := 114) (c := 5) (n := 1) cl5 rfl (CN nX5_at (by decide) (by decide)) gw774 gw595 gw596 dX10_lostAt_54) (by decide)) JA.nil)) aX5_at (RunK.V (i := 114) (c := 5) (n := 1) cl5 rfl (CN nX5_at (by decide) (by decide)) gw774 gw595 gw596 dX10_lostAt_57) (by decide)) (JX.ic (n := 1) rfl dX10_lostAt_60) dX10_lostAt_61 rfl) (Or.inl rfl)) (JS.retI (pc1 := 65) (JX.il (k := 2) rfl dX10_lostAt_64) dX10_lostAt_65) (Or.inl rfl)))) (JS.inc (n := 1) rfl (show 2 < 4 by decide) dX10_lostAt_66)) dX10_lostAt_69 rfl (Or.inl rfl) (Or.inl rfl)))) (JS.retI (pc1 := 73) (JX.ic (n := (-1)) rfl dX10_lostAt_72) dX10_lostAt_73))
def mX10_lostAt : MS := runM 4 (some (.int)) bX10_lostAt
theorem aX10_lostAt : MA yX10_lostAt cX10_lostAt 4 (some (.int)) 3 mX10_lostAt := MA.of (plainFor_of_name (by decide)) jX10_lostAt
theorem eX10_lostAt (a0 : Nat) (a1 : Int32) (h : AH) : mX10_lostAt [.ref a0, .int a1] h = (bX10_lostAt [.val (.ref a0), .val (.int a1), .unset, .unset] h).bind (finM (some (.int))) := rfl
/-! PieceStore.why -/
theorem dX11_why_0 : decode cX11_why 0 = .ok (.aload_n 0, 1) := by decide +kernel
theorem dX11_why_1 : decode cX11_why 1 = .ok (.getfield 29, 3) := by decide +kernel
theorem dX11_why_4 : decode cX11_why 4 = .ok (.iload_n 1, 1) := by decide +kernel
theorem dX11_why_5 : decode cX11_why 5 = .ok (.invokevirtual 234, 3) := by decide +kernel
theorem dX11_why_8 : decode cX11_why 8 = .ok (.istore_n 3, 1) := by decide +kernel
theorem dX11_why_9 : decode cX11_why 9 = .ok (.aload_n 0, 1) := by decide +kernel
theorem dX11_why_10 : decode cX11_why 10 = .ok (.getfield 29, 3) := by decide +kernel
theorem dX11_why_13 : decode cX11_why 13 = .ok (.iload_n 1, 1) := by decide +kernel
theorem dX11_why_14 : decode cX11_why 14 = .ok (.iload_n 3, 1) := by decide +kernel
theorem dX11_why_15 : decode cX11_why 15 = .ok (.invokevirtual 170, 3) := by decide +kernel
theorem dX11_why_18 : decode cX11_why 18 = .ok (.istore 4, 2) := by decide +kernel
theorem dX11_why_20 : decode cX11_why 20 = .ok (.iload 4, 2) := by decide +kernel
theorem dX11_why_22 : decode cX11_why 22 = .ok (.iconst (-1), 1) := by decide +kernel
theorem dX11_why_23 : decode cX11_why 23 = .ok (.if_icmp .ne 5, 3) := by decide +kernel
theorem dX11_why_26 : decode cX11_why 26 = .ok (.iconst (-1), 1) := by decide +kernel
theorem dX11_why_27 : decode cX11_why 27 = .ok (.ireturn, 1) := by decide +kernel
theorem dX11_why_28 : decode cX11_why 28 = .ok (.aload_n 0, 1) := by decide +kernel
theorem dX11_why_29 : decode cX11_why 29 = .ok (.getfield 29, 3) := by decide +kernel
theorem dX11_why_32 : decode cX11_why 32 = .ok (.getfield 112, 3) := by decide +kernel
theorem dX11_why_35 : decode cX11_why 35 = .ok (.getfield 179, 3) := by decide +kernel
theorem dX11_why_38 : decode cX11_why 38 = .ok (.iload 4, 2) := by decide +kernel
theorem dX11_why_40 : decode cX11_why 40 = .ok (.invokevirtual 161, 3) := by decide +kernel
theorem dX11_why_43 : decode cX11_why 43 = .ok (.istore 5, 2) := by decide +kernel
theorem dX11_why_45 : decode cX11_why 45 = .ok (.iload_n 2, 1) := by decide +kernel
theorem dX11_why_46 : decode cX11_why 46 = .ok (.tableswitch 56 0 2 #[26, 28, 53], 26) := by decide +kernel
theorem dX11_why_72 : decode cX11_why 72 = .ok (.iload_n 3, 1) := by decide +kernel
theorem dX11_why_73 : decode cX11_why 73 = .ok (.ireturn, 1) := by decide +kernel
theorem dX11_why_74 : decode cX11_why 74 = .ok (.aload_n 0, 1) := by decide +kernel
theorem dX11_why_75 : decode cX11_why 75 = .ok (.getfield 29, 3) := by decide +kernel
theorem dX11_why_78 : decode cX11_why 78 = .ok (.getfield 112, 3) := by decide +kernel
theorem dX11_why_81 : decode cX11_why 81 = .ok (.getfield 194, 3) := by decide +kernel
theorem dX11_why_84 : decode cX11_why 84 = .ok (.iload 5, 2) := by decide +kernel
theorem dX11_why_86 : decode cX11_why 86 = .ok (.invokevirtual 161, 3) := by decide +kernel
theorem dX11_why_89 : decode cX11_why 89 = .ok (.iconst 1, 1) := by decide +kernel
theorem dX11_why_90 : decode cX11_why 90 = .ok (.if_icmp .ne 7, 3) := by decide +kernel
theorem dX11_why_93 : decode cX11_why 93 = .ok (.iconst 1, 1) := by decide +kernel
theorem dX11_why_94 : decode cX11_why 94 = .ok (.goto 4, 3) := by decide +kernel
theorem dX11_why_97 : decode cX11_why 97 = .ok (.iconst 2, 1) := by decide +kernel
theorem dX11_why_98 : decode cX11_why 98 = .ok (.ireturn, 1) := by decide +kernel
theorem dX11_why_99 : decode cX11_why 99 = .ok (.iload 5, 2) := by decide +kernel
theorem dX11_why_101 : decode cX11_why 101 = .ok (.ireturn, 1) := by decide +kernel
theorem dX11_why_102 : decode cX11_why 102 = .ok (.iconst (-1), 1) := by decide +kernel
theorem dX11_why_103 : decode cX11_why 103 = .ok (.ireturn, 1) := by decide +kernel
abbrev MX11_why : MI := (RX11, cX11_why, 6, 4, false)
def swX11_why_1 (x : Int32) : St := if x = iI 0 then (retI (lvI 3)) else if x = iI 1 then (retI (iteX (eqI (calX decI (ckV 5 1) mX5_at (agC va_rf (getR 9 6 (getR 10 10 (getR 11 3 (lvR 0)))) (agC Value.int (lvI 5) agN))) (ciI (iI 1))) (ciI (iI 1)) (ciI (iI 2)))) else if x = iI 2 then (retI (lvI 5)) else (retI (ciI (iI (-1))))
def bX11_why : St := (seqS (lsI 3 (calX decI (ckV 10 1) mX10_lostAt (agC va_rf (getR 11 3 (lvR 0)) (agC Value.int (lvI 1) agN)))) (seqS (lsI 4 (calX decI (ckV 10 2) mX10_spotOf (agC va_rf (getR 11 3 (lvR 0)) (agC Value.int (lvI 1) (agC Value.int (lvI 3) agN))))) (seqS (ifS (eqI (lvI 4) (ciI (iI (-1)))) (retI (ciI (iI (-1))))) (seqS (lsI 5 (calX decI (ckV 5 1) mX5_at (agC va_rf (getR 9 2 (getR 10 10 (getR 11 3 (lvR 0)))) (agC Value.int (lvI 4) agN)))) (swS (lvI 2) swX11_why_1)))))
theorem swX11_why_1_ok : ∀ x, ∃ tgt pcx, TSw MX11_why.2.1 46 x tgt ∧ JS MX11_why 104 0 tgt pcx [] (swX11_why_1 x) ∧ Dead (swX11_why_1 x) := by
  intro x
  unfold swX11_why_1
  by_cases h0 : x = iI 0
  · subst h0
    rw [if_pos rfl]
    refine ⟨72, 74, ?_, (JS.retI (pc1 := 73) (JX.il (k := 3) rfl dX11_why_72) dX11_why_73), dead_retI⟩
    exact TSw.tab_in (off := 26) dX11_why_46 (by decide) (by decide) rfl rfl
  by_cases h1 : x = iI 1
  · subst h1
    rw [if_neg (by decide)]
    rw [if_pos rfl]
    refine ⟨74, 99, ?_, (JS.retI (pc1 := 98) (JX.ite (l := 97) (pc1 := 93) (pc2 := 94) (pc3 := 98) (lend := 98) (CJ.eq_f (tgt := 97) (pc1 := 89) (pc2 := 90) (JX.call (pc1 := 86) decI_ok (JA.r (JX.getR (pc1 := 81) (c := 9) (k := 6) (i := 194) (JX.getR (pc1 := 78) (c := 10) (k := 10) (i := 112) (JX.getR (pc1 := 75) (c := 11) (k := 3) (i := 29) (JX.al (k := 0) rfl dX11_why_74) cl11 (by decide) rfl fk11_29 dX11_why_75) cl10 (by decide) rfl fk11_112 dX11_why_78) cl9 (by decide) rfl fk11_194 dX11_why_81) (JA.i (JX.il2 dX11_why_84) JA.nil)) aX5_at (RunK.V (i := 161) (c := 5) (n := 1) cl5 rfl (CN nX5_at (by decide) (by decide)) gw594 gw595 gw596 dX11_why_86) (by decide)) (JX.ic (n := 1) rfl dX11_why_89) dX11_why_90 rfl) (JX.ic (n := 1) rfl dX11_why_93) dX11_why_94 rfl (JX.ic (n := 2) rfl dX11_why_97) (Or.inl rfl)) dX11_why_98), dead_retI⟩
    exact TSw.tab_in (off := 28) dX11_why_46 (by decide) (by decide) rfl rfl
  by_cases h2 : x = iI 2
  · subst h2
    rw [if_neg (by decide)]
    rw [if_neg (by decide)]
    rw [if_pos rfl]
    refine ⟨99, 102, ?_, (JS.retI (pc1 := 101) (JX.il2 dX11_why_99) dX11_why_101), dead_retI⟩
    exact TSw.tab_in (off := 53) dX11_why_46 (by decide) (by decide) rfl rfl
  rw [if_neg h0]
  rw [if_neg h1]
  rw [if_neg h2]
  refine ⟨102, 104, ?_, (JS.retI (pc1 := 103) (JX.ic (n := (-1)) rfl dX11_why_102) dX11_why_103), dead_retI⟩
  exact TSw.tab_out [0, 1, 2] dX11_why_46 (by decide) (by decide) (by simp [h0, h1, h2]) rfl
theorem jX11_why : JS MX11_why 0 0 0 104 [] bX11_why :=
  (JS.seq (pc1 := 9) (JS.is (pc1 := 8) (k := 3) (JX.call (pc1 := 5) decI_ok (JA.r (JX.getR (pc1 := 1) (c := 11) (k := 3) (i := 29) (JX.al (k := 0) rfl dX11_why_0) cl11 (by decide) rfl fk11_29 dX11_why_1) (JA.i (JX.il (k := 1) rfl dX11_why_4) JA.nil)) aX10_lostAt (RunK.V (i := 234) (c := 10) (n := 1) cl10 rfl (CN nX10_lostAt (by decide) (by decide)) gw987 gw988 gw989 dX11_why_5) (by decide)) rfl (show 3 < 6 by decide) dX11_why_8) (JS.seq (pc1 := 20) (JS.is2 (pc1 := 18) (JX.call (pc1 := 15) decI_ok (JA.r (JX.getR (pc1 := 10) (c := 11) (k := 3) (i := 29) (JX.al (k := 0) rfl dX11_why_9) cl11 (by decide) rfl fk11_29 dX11_why_10) (JA.i (JX.il (k := 1) rfl dX11_why_13) (JA.i (JX.il (k := 3) rfl dX11_why_14) JA.nil))) aX10_spotOf (RunK.V (i := 170) (c := 10) (n := 2) cl10 rfl (CN nX10_spotOf (by decide) (by decide)) gw825 gw794 gw795 dX11_why_15) (by decide)) (show 4 < 6 by decide) dX11_why_18) (JS.seq (pc1 := 28) (JS.iff (l := 28) (pc1 := 26) (CJ.eq_f (tgt := 28) (pc1 := 22) (pc2 := 23) (JX.il2 dX11_why_20) (JX.ic (n := (-1)) rfl dX11_why_22) dX11_why_23 rfl) (JS.retI (pc1 := 27) (JX.ic (n := (-1)) rfl dX11_why_26) dX11_why_27) (Or.inl rfl)) (JS.seq (pc1 := 45) (JS.is2 (pc1 := 43) (JX.call (pc1 := 40) decI_ok (JA.r (JX.getR (pc1 := 35) (c := 9) (k := 2) (i := 179) (JX.getR (pc1 := 32) (c := 10) (k := 10) (i := 112) (JX.getR (pc1 := 29) (c := 11) (k := 3) (i := 29) (JX.al (k := 0) rfl dX11_why_28) cl11 (by decide) rfl fk11_29 dX11_why_29) cl10 (by decide) rfl fk11_112 dX11_why_32) cl9 (by decide) rfl fk11_179 dX11_why_35) (JA.i (JX.il2 dX11_why_38) JA.nil)) aX5_at (RunK.V (i := 161) (c := 5) (n := 1) cl5 rfl (CN nX5_at (by decide) (by decide)) gw594 gw595 gw596 dX11_why_40) (by decide)) (show 5 < 6 by decide) dX11_why_43) (JS.sw (lend := 104) (pc1 := 46) (pc2 := 104) (JX.il (k := 2) rfl dX11_why_45) swX11_why_1_ok (Or.inl rfl))))))
def mX11_why : MS := runM 6 (some (.int)) bX11_why
theorem aX11_why : MA yX11_why cX11_why 6 (some (.int)) 4 mX11_why := MA.of (plainFor_of_name (by decide)) jX11_why
theorem eX11_why (a0 : Nat) (a1 : Int32) (a2 : Int32) (h : AH) : mX11_why [.ref a0, .int a1, .int a2] h = (bX11_why [.val (.ref a0), .val (.int a1), .val (.int a2), .unset, .unset, .unset] h).bind (finM (some (.int))) := rfl
/-! Desk.freePlace -/
theorem dX2_freePlace_0 : decode cX2_freePlace 0 = .ok (.aload_n 0, 1) := by decide +kernel
theorem dX2_freePlace_1 : decode cX2_freePlace 1 = .ok (.getfield 18, 3) := by decide +kernel
theorem dX2_freePlace_4 : decode cX2_freePlace 4 = .ok (.iconst (-1), 1) := by decide +kernel
theorem dX2_freePlace_5 : decode cX2_freePlace 5 = .ok (.invokevirtual 49, 3) := by decide +kernel
theorem dX2_freePlace_8 : decode cX2_freePlace 8 = .ok (.aload_n 0, 1) := by decide +kernel
theorem dX2_freePlace_9 : decode cX2_freePlace 9 = .ok (.getfield 21, 3) := by decide +kernel
theorem dX2_freePlace_12 : decode cX2_freePlace 12 = .ok (.iconst (-1), 1) := by decide +kernel
theorem dX2_freePlace_13 : decode cX2_freePlace 13 = .ok (.invokevirtual 49, 3) := by decide +kernel
theorem dX2_freePlace_16 : decode cX2_freePlace 16 = .ok (.aload_n 0, 1) := by decide +kernel
theorem dX2_freePlace_17 : decode cX2_freePlace 17 = .ok (.getfield 18, 3) := by decide +kernel
theorem dX2_freePlace_20 : decode cX2_freePlace 20 = .ok (.invokevirtual 53, 3) := by decide +kernel
theorem dX2_freePlace_23 : decode cX2_freePlace 23 = .ok (.iconst 1, 1) := by decide +kernel
theorem dX2_freePlace_24 : decode cX2_freePlace 24 = .ok (.isub, 1) := by decide +kernel
theorem dX2_freePlace_25 : decode cX2_freePlace 25 = .ok (.ireturn, 1) := by decide +kernel
abbrev MX2_freePlace : MI := (RX2, cX2_freePlace, 1, 3, false)
def bX2_freePlace : St := (seqS (calS (ckV 5 1) mX5_add (agC va_rf (getR 2 1 (lvR 0)) (agC Value.int (ciI (iI (-1))) agN))) (seqS (calS (ckV 5 1) mX5_add (agC va_rf (getR 2 2 (lvR 0)) (agC Value.int (ciI (iI (-1))) agN))) (retI (subI (calX decI (ckV 5 0) mX5_size (agC va_rf (getR 2 1 (lvR 0)) agN)) (ciI (iI 1))))))
theorem jX2_freePlace : JS MX2_freePlace 0 0 0 26 [] bX2_freePlace :=
  (JS.seq (pc1 := 8) (JS.call (pc1 := 5) (JA.r (JX.getR (pc1 := 1) (c := 2) (k := 1) (i := 18) (JX.al (k := 0) rfl dX2_freePlace_0) cl2 (by decide) rfl fk2_18 dX2_freePlace_1) (JA.i (JX.ic (n := (-1)) rfl dX2_freePlace_4) JA.nil)) aX5_add (RunK.V (i := 49) (c := 5) (n := 1) cl5 rfl (CN nX5_add (by decide) (by decide)) gw1002 gw121 gw122 dX2_freePlace_5)) (JS.seq (pc1 := 16) (JS.call (pc1 := 13) (JA.r (JX.getR (pc1 := 9) (c := 2) (k := 2) (i := 21) (JX.al (k := 0) rfl dX2_freePlace_8) cl2 (by decide) rfl fk2_21 dX2_freePlace_9) (JA.i (JX.ic (n := (-1)) rfl dX2_freePlace_12) JA.nil)) aX5_add (RunK.V (i := 49) (c := 5) (n := 1) cl5 rfl (CN nX5_add (by decide) (by decide)) gw1002 gw121 gw122 dX2_freePlace_13)) (JS.retI (pc1 := 25) (JX.isub (pc1 := 23) (pc2 := 24) (JX.call (pc1 := 20) decI_ok (JA.r (JX.getR (pc1 := 17) (c := 2) (k := 1) (i := 18) (JX.al (k := 0) rfl dX2_freePlace_16) cl2 (by decide) rfl fk2_18 dX2_freePlace_17) JA.nil) aX5_size (RunK.V (i := 53) (c := 5) (n := 0) cl5 rfl (CN nX5_size (by decide) (by decide)) gw1007 gw587 gw588 dX2_freePlace_20) (by decide)) (JX.ic (n := 1) rfl dX2_freePlace_23) dX2_freePlace_24) dX2_freePlace_25)))
def mX2_freePlace : MS := runM 1 (some (.int)) bX2_freePlace
theorem aX2_freePlace : MA yX2_freePlace cX2_freePlace 1 (some (.int)) 3 mX2_freePlace := MA.of (plainFor_of_name (by decide)) jX2_freePlace
theorem eX2_freePlace (a0 : Nat) (h : AH) : mX2_freePlace [.ref a0] h = (bX2_freePlace [.val (.ref a0)] h).bind (finM (some (.int))) := rfl
/-! Desk.nextVisit -/
theorem dX2_nextVisit_0 : decode cX2_nextVisit 0 = .ok (.iload_n 2, 1) := by decide +kernel
theorem dX2_nextVisit_1 : decode cX2_nextVisit 1 = .ok (.istore_n 3, 1) := by decide +kernel
theorem dX2_nextVisit_2 : decode cX2_nextVisit 2 = .ok (.iload_n 3, 1) := by decide +kernel
theorem dX2_nextVisit_3 : decode cX2_nextVisit 3 = .ok (.aload_n 0, 1) := by decide +kernel
theorem dX2_nextVisit_4 : decode cX2_nextVisit 4 = .ok (.getfield 12, 3) := by decide +kernel
theorem dX2_nextVisit_7 : decode cX2_nextVisit 7 = .ok (.invokevirtual 53, 3) := by decide +kernel
theorem dX2_nextVisit_10 : decode cX2_nextVisit 10 = .ok (.if_icmp .ge 23, 3) := by decide +kernel
theorem dX2_nextVisit_13 : decode cX2_nextVisit 13 = .ok (.aload_n 0, 1) := by decide +kernel
theorem dX2_nextVisit_14 : decode cX2_nextVisit 14 = .ok (.getfield 12, 3) := by decide +kernel
theorem dX2_nextVisit_17 : decode cX2_nextVisit 17 = .ok (.iload_n 3, 1) := by decide +kernel
theorem dX2_nextVisit_18 : decode cX2_nextVisit 18 = .ok (.invokevirtual 38, 3) := by decide +kernel
theorem dX2_nextVisit_21 : decode cX2_nextVisit 21 = .ok (.iload_n 1, 1) := by decide +kernel
theorem dX2_nextVisit_22 : decode cX2_nextVisit 22 = .ok (.if_icmp .ne 5, 3) := by decide +kernel
theorem dX2_nextVisit_25 : decode cX2_nextVisit 25 = .ok (.iload_n 3, 1) := by decide +kernel
theorem dX2_nextVisit_26 : decode cX2_nextVisit 26 = .ok (.ireturn, 1) := by decide +kernel
theorem dX2_nextVisit_27 : decode cX2_nextVisit 27 = .ok (.iinc 3 1, 3) := by decide +kernel
theorem dX2_nextVisit_30 : decode cX2_nextVisit 30 = .ok (.goto (-28), 3) := by decide +kernel
theorem dX2_nextVisit_33 : decode cX2_nextVisit 33 = .ok (.aload_n 0, 1) := by decide +kernel
theorem dX2_nextVisit_34 : decode cX2_nextVisit 34 = .ok (.getfield 12, 3) := by decide +kernel
theorem dX2_nextVisit_37 : decode cX2_nextVisit 37 = .ok (.invokevirtual 53, 3) := by decide +kernel
theorem dX2_nextVisit_40 : decode cX2_nextVisit 40 = .ok (.ireturn, 1) := by decide +kernel
abbrev MX2_nextVisit : MI := (RX2, cX2_nextVisit, 4, 2, false)
def lcX2_nextVisit_1 : Ex Bool := (ltI (lvI 3) (calX decI (ckV 5 0) mX5_size (agC va_rf (getR 2 0 (lvR 0)) agN)))
def lbX2_nextVisit_1 : St := (forB (ifS (eqI (calX decI (ckV 5 1) mX5_at (agC va_rf (getR 2 0 (lvR 0)) (agC Value.int (lvI 3) agN))) (lvI 1)) (retI (lvI 3))) (incI 3 (iI 1)))
def bX2_nextVisit : St := (seqS (scS 3 (seqS (lsI 3 (lvI 2)) (whileS lcX2_nextVisit_1 lbX2_nextVisit_1))) (retI (calX decI (ckV 5 0) mX5_size (agC va_rf (getR 2 0 (lvR 0)) agN))))
theorem jX2_nextVisit : JS MX2_nextVisit 0 0 0 41 [] bX2_nextVisit :=
  (JS.seq (pc1 := 33) (JS.sc (JS.seq (pc1 := 2) (JS.is (pc1 := 1) (k := 3) (JX.il (k := 2) rfl dX2_nextVisit_0) rfl (show 3 < 4 by decide) dX2_nextVisit_1) (JS.while (l := 33) (lb := 33) (pc1 := 13) (pc2 := 30) (pc3 := 33) (CJ.lt_f (tgt := 33) (pc1 := 3) (pc2 := 10) (JX.il (k := 3) rfl dX2_nextVisit_2) (JX.call (pc1 := 7) decI_ok (JA.r (JX.getR (pc1 := 4) (c := 2) (k := 0) (i := 12) (JX.al (k := 0) rfl dX2_nextVisit_3) cl2 (by decide) rfl fk2_12 dX2_nextVisit_4) JA.nil) aX5_size (RunK.V (i := 53) (c := 5) (n := 0) cl5 rfl (CN nX5_size (by decide) (by decide)) gw1007 gw587 gw588 dX2_nextVisit_7) (by decide)) dX2_nextVisit_10 rfl) (JS.forb (pc1 := 27) (JS.iff (l := 27) (pc1 := 25) (CJ.eq_f (tgt := 27) (pc1 := 21) (pc2 := 22) (JX.call (pc1 := 18) decI_ok (JA.r (JX.getR (pc1 := 14) (c := 2) (k := 0) (i := 12) (JX.al (k := 0) rfl dX2_nextVisit_13) cl2 (by decide) rfl fk2_12 dX2_nextVisit_14) (JA.i (JX.il (k := 3) rfl dX2_nextVisit_17) JA.nil)) aX5_at (RunK.V (i := 38) (c := 5) (n := 1) cl5 rfl (CN nX5_at (by decide) (by decide)) gw1000 gw595 gw596 dX2_nextVisit_18) (by decide)) (JX.il (k := 1) rfl dX2_nextVisit_21) dX2_nextVisit_22 rfl) (JS.retI (pc1 := 26) (JX.il (k := 3) rfl dX2_nextVisit_25) dX2_nextVisit_26) (Or.inl rfl)) (JS.inc (n := 1) rfl (show 3 < 4 by decide) dX2_nextVisit_27)) dX2_nextVisit_30 rfl (Or.inl rfl) (Or.inl rfl)))) (JS.retI (pc1 := 40) (JX.call (pc1 := 37) decI_ok (JA.r (JX.getR (pc1 := 34) (c := 2) (k := 0) (i := 12) (JX.al (k := 0) rfl dX2_nextVisit_33) cl2 (by decide) rfl fk2_12 dX2_nextVisit_34) JA.nil) aX5_size (RunK.V (i := 53) (c := 5) (n := 0) cl5 rfl (CN nX5_size (by decide) (by decide)) gw1007 gw587 gw588 dX2_nextVisit_37) (by decide)) dX2_nextVisit_40))
def mX2_nextVisit : MS := runM 4 (some (.int)) bX2_nextVisit
theorem aX2_nextVisit : MA yX2_nextVisit cX2_nextVisit 4 (some (.int)) 2 mX2_nextVisit := MA.of (plainFor_of_name (by decide)) jX2_nextVisit
theorem eX2_nextVisit (a0 : Nat) (a1 : Int32) (a2 : Int32) (h : AH) : mX2_nextVisit [.ref a0, .int a1, .int a2] h = (bX2_nextVisit [.val (.ref a0), .val (.int a1), .val (.int a2), .unset] h).bind (finM (some (.int))) := rfl
/-! Desk.isLater -/
theorem dX2_isLater_0 : decode cX2_isLater 0 = .ok (.aload_n 0, 1) := by decide +kernel
theorem dX2_isLater_1 : decode cX2_isLater 1 = .ok (.aload_n 0, 1) := by decide +kernel
theorem dX2_isLater_2 : decode cX2_isLater 2 = .ok (.getfield 18, 3) := by decide +kernel
theorem dX2_isLater_5 : decode cX2_isLater 5 = .ok (.iload_n 1, 1) := by decide +kernel
theorem dX2_isLater_6 : decode cX2_isLater 6 = .ok (.invokevirtual 38, 3) := by decide +kernel
theorem dX2_isLater_9 : decode cX2_isLater 9 = .ok (.iload_n 3, 1) := by decide +kernel
theorem dX2_isLater_10 : decode cX2_isLater 10 = .ok (.invokevirtual 74, 3) := by decide +kernel
theorem dX2_isLater_13 : decode cX2_isLater 13 = .ok (.istore 4, 2) := by decide +kernel
theorem dX2_isLater_15 : decode cX2_isLater 15 = .ok (.aload_n 0, 1) := by decide +kernel
theorem dX2_isLater_16 : decode cX2_isLater 16 = .ok (.aload_n 0, 1) := by decide +kernel
theorem dX2_isLater_17 : decode cX2_isLater 17 = .ok (.getfield 18, 3) := by decide +kernel
theorem dX2_isLater_20 : decode cX2_isLater 20 = .ok (.iload_n 2, 1) := by decide +kernel
theorem dX2_isLater_21 : decode cX2_isLater 21 = .ok (.invokevirtual 38, 3) := by decide +kernel
theorem dX2_isLater_24 : decode cX2_isLater 24 = .ok (.iload_n 3, 1) := by decide +kernel
theorem dX2_isLater_25 : decode cX2_isLater 25 = .ok (.invokevirtual 74, 3) := by decide +kernel
theorem dX2_isLater_28 : decode cX2_isLater 28 = .ok (.istore 5, 2) := by decide +kernel
theorem dX2_isLater_30 : decode cX2_isLater 30 = .ok (.iload 4, 2) := by decide +kernel
theorem dX2_isLater_32 : decode cX2_isLater 32 = .ok (.iload 5, 2) := by decide +kernel
theorem dX2_isLater_34 : decode cX2_isLater 34 = .ok (.if_icmp .gt 29, 3) := by decide +kernel
theorem dX2_isLater_37 : decode cX2_isLater 37 = .ok (.iload 4, 2) := by decide +kernel
theorem dX2_isLater_39 : decode cX2_isLater 39 = .ok (.iload 5, 2) := by decide +kernel
theorem dX2_isLater_41 : decode cX2_isLater 41 = .ok (.if_icmp .ne 26, 3) := by decide +kernel
theorem dX2_isLater_44 : decode cX2_isLater 44 = .ok (.aload_n 0, 1) := by decide +kernel
theorem dX2_isLater_45 : decode cX2_isLater 45 = .ok (.getfield 18, 3) := by decide +kernel
theorem dX2_isLater_48 : decode cX2_isLater 48 = .ok (.iload_n 1, 1) := by decide +kernel
theorem dX2_isLater_49 : decode cX2_isLater 49 = .ok (.invokevirtual 38, 3) := by decide +kernel
theorem dX2_isLater_52 : decode cX2_isLater 52 = .ok (.aload_n 0, 1) := by decide +kernel
theorem dX2_isLater_53 : decode cX2_isLater 53 = .ok (.getfield 18, 3) := by decide +kernel
theorem dX2_isLater_56 : decode cX2_isLater 56 = .ok (.iload_n 2, 1) := by decide +kernel
theorem dX2_isLater_57 : decode cX2_isLater 57 = .ok (.invokevirtual 38, 3) := by decide +kernel
theorem dX2_isLater_60 : decode cX2_isLater 60 = .ok (.if_icmp .ge 7, 3) := by decide +kernel
theorem dX2_isLater_63 : decode cX2_isLater 63 = .ok (.iconst 1, 1) := by decide +kernel
theorem dX2_isLater_64 : decode cX2_isLater 64 = .ok (.goto 4, 3) := by decide +kernel
theorem dX2_isLater_67 : decode cX2_isLater 67 = .ok (.iconst 0, 1) := by decide +kernel
theorem dX2_isLater_68 : decode cX2_isLater 68 = .ok (.ireturn, 1) := by decide +kernel
abbrev MX2_isLater : MI := (RX2, cX2_isLater, 6, 3, false)
def bX2_isLater : St := (seqS (lsI 4 (calX decI (ckV 2 2) mX2_nextVisit (agC va_rf (lvR 0) (agC Value.int (calX decI (ckV 5 1) mX5_at (agC va_rf (getR 2 1 (lvR 0)) (agC Value.int (lvI 1) agN))) (agC Value.int (lvI 3) agN))))) (seqS (lsI 5 (calX decI (ckV 2 2) mX2_nextVisit (agC va_rf (lvR 0) (agC Value.int (calX decI (ckV 5 1) mX5_at (agC va_rf (getR 2 1 (lvR 0)) (agC Value.int (lvI 2) agN))) (agC Value.int (lvI 3) agN))))) (retI (iteX (orX (gtI (lvI 4) (lvI 5)) (andX (eqI (lvI 4) (lvI 5)) (ltI (calX decI (ckV 5 1) mX5_at (agC va_rf (getR 2 1 (lvR 0)) (agC Value.int (lvI 1) agN))) (calX decI (ckV 5 1) mX5_at (agC va_rf (getR 2 1 (lvR 0)) (agC Value.int (lvI 2) agN)))))) (ciI (iI 1)) (ciI (iI 0))))))
theorem jX2_isLater : JS MX2_isLater 0 0 0 69 [] bX2_isLater :=
  (JS.seq (pc1 := 15) (JS.is2 (pc1 := 13) (JX.call (pc1 := 10) decI_ok (JA.r (JX.al (k := 0) rfl dX2_isLater_0) (JA.i (JX.call (pc1 := 6) decI_ok (JA.r (JX.getR (pc1 := 2) (c := 2) (k := 1) (i := 18) (JX.al (k := 0) rfl dX2_isLater_1) cl2 (by decide) rfl fk2_18 dX2_isLater_2) (JA.i (JX.il (k := 1) rfl dX2_isLater_5) JA.nil)) aX5_at (RunK.V (i := 38) (c := 5) (n := 1) cl5 rfl (CN nX5_at (by decide) (by decide)) gw1000 gw595 gw596 dX2_isLater_6) (by decide)) (JA.i (JX.il (k := 3) rfl dX2_isLater_9) JA.nil))) aX2_nextVisit (RunK.V (i := 74) (c := 2) (n := 2) cl2 rfl (CN nX2_nextVisit (by decide) (by decide)) gw1021 gw1023 gs38 dX2_isLater_10) (by decide)) (show 4 < 6 by decide) dX2_isLater_13) (JS.seq (pc1 := 30) (JS.is2 (pc1 := 28) (JX.call (pc1 := 25) decI_ok (JA.r (JX.al (k := 0) rfl dX2_isLater_15) (JA.i (JX.call (pc1 := 21) decI_ok (JA.r (JX.getR (pc1 := 17) (c := 2) (k := 1) (i := 18) (JX.al (k := 0) rfl dX2_isLater_16) cl2 (by decide) rfl fk2_18 dX2_isLater_17) (JA.i (JX.il (k := 2) rfl dX2_isLater_20) JA.nil)) aX5_at (RunK.V (i := 38) (c := 5) (n := 1) cl5 rfl (CN nX5_at (by decide) (by decide)) gw1000 gw595 gw596 dX2_isLater_21) (by decide)) (JA.i (JX.il (k := 3) rfl dX2_isLater_24) JA.nil))) aX2_nextVisit (RunK.V (i := 74) (c := 2) (n := 2) cl2 rfl (CN nX2_nextVisit (by decide) (by decide)) gw1021 gw1023 gs38 dX2_isLater_25) (by decide)) (show 5 < 6 by decide) dX2_isLater_28) (JS.retI (pc1 := 68) (JX.ite (l := 67) (pc1 := 63) (pc2 := 64) (pc3 := 68) (lend := 68) (CJ.or_f (l := 63) (pc1 := 37) (CJ.gt_t (tgt := 63) (pc1 := 32) (pc2 := 34) (JX.il2 dX2_isLater_30) (JX.il2 dX2_isLater_32) dX2_isLater_34 rfl) (CJ.and_f (pc1 := 44) (CJ.eq_f (tgt := 67) (pc1 := 39) (pc2 := 41) (JX.il2 dX2_isLater_37) (JX.il2 dX2_isLater_39) dX2_isLater_41 rfl) (CJ.lt_f (tgt := 67) (pc1 := 52) (pc2 := 60) (JX.call (pc1 := 49) decI_ok (JA.r (JX.getR (pc1 := 45) (c := 2) (k := 1) (i := 18) (JX.al (k := 0) rfl dX2_isLater_44) cl2 (by decide) rfl fk2_18 dX2_isLater_45) (JA.i (JX.il (k := 1) rfl dX2_isLater_48) JA.nil)) aX5_at (RunK.V (i := 38) (c := 5) (n := 1) cl5 rfl (CN nX5_at (by decide) (by decide)) gw1000 gw595 gw596 dX2_isLater_49) (by decide)) (JX.call (pc1 := 57) decI_ok (JA.r (JX.getR (pc1 := 53) (c := 2) (k := 1) (i := 18) (JX.al (k := 0) rfl dX2_isLater_52) cl2 (by decide) rfl fk2_18 dX2_isLater_53) (JA.i (JX.il (k := 2) rfl dX2_isLater_56) JA.nil)) aX5_at (RunK.V (i := 38) (c := 5) (n := 1) cl5 rfl (CN nX5_at (by decide) (by decide)) gw1000 gw595 gw596 dX2_isLater_57) (by decide)) dX2_isLater_60 rfl)) (Or.inl rfl)) (JX.ic (n := 1) rfl dX2_isLater_63) dX2_isLater_64 rfl (JX.ic (n := 0) rfl dX2_isLater_67) (Or.inl rfl)) dX2_isLater_68)))
def mX2_isLater : MS := runM 6 (some (.boolean)) bX2_isLater
theorem aX2_isLater : MA yX2_isLater cX2_isLater 6 (some (.boolean)) 3 mX2_isLater := MA.of (plainFor_of_name (by decide)) jX2_isLater
theorem eX2_isLater (a0 : Nat) (a1 : Int32) (a2 : Int32) (a3 : Int32) (h : AH) : mX2_isLater [.ref a0, .int a1, .int a2, .int a3] h = (bX2_isLater [.val (.ref a0), .val (.int a1), .val (.int a2), .val (.int a3), .unset, .unset] h).bind (finM (some (.boolean))) := rfl
/-! Desk.placeToClear -/
theorem dX2_placeToClear_0 : decode cX2_placeToClear 0 = .ok (.iconst 0, 1) := by decide +kernel
theorem dX2_placeToClear_1 : decode cX2_placeToClear 1 = .ok (.istore_n 3, 1) := by decide +kernel
theorem dX2_placeToClear_2 : decode cX2_placeToClear 2 = .ok (.iconst 1, 1) := by decide +kernel
theorem dX2_placeToClear_3 : decode cX2_placeToClear 3 = .ok (.istore 4, 2) := by decide +kernel
theorem dX2_placeToClear_5 : decode cX2_placeToClear 5 = .ok (.iload 4, 2) := by decide +kernel
theorem dX2_placeToClear_7 : decode cX2_placeToClear 7 = .ok (.aload_n 0, 1) := by decide +kernel
theorem dX2_placeToClear_8 : decode cX2_placeToClear 8 = .ok (.getfield 18, 3) := by decide +kernel
theorem dX2_placeToClear_11 : decode cX2_placeToClear 11 = .ok (.invokevirtual 53, 3) := by decide +kernel
theorem dX2_placeToClear_14 : decode cX2_placeToClear 14 = .ok (.if_icmp .ge 63, 3) := by decide +kernel
theorem dX2_placeToClear_17 : decode cX2_placeToClear 17 = .ok (.iload_n 1, 1) := by decide +kernel
theorem dX2_placeToClear_18 : decode cX2_placeToClear 18 = .ok (.ifCond .ne 31, 3) := by decide +kernel
theorem dX2_placeToClear_21 : decode cX2_placeToClear 21 = .ok (.aload_n 0, 1) := by decide +kernel
theorem dX2_placeToClear_22 : decode cX2_placeToClear 22 = .ok (.getfield 21, 3) := by decide +kernel
theorem dX2_placeToClear_25 : decode cX2_placeToClear 25 = .ok (.iload 4, 2) := by decide +kernel
theorem dX2_placeToClear_27 : decode cX2_placeToClear 27 = .ok (.invokevirtual 38, 3) := by decide +kernel
theorem dX2_placeToClear_30 : decode cX2_placeToClear 30 = .ok (.aload_n 0, 1) := by decide +kernel
theorem dX2_placeToClear_31 : decode cX2_placeToClear 31 = .ok (.getfield 21, 3) := by decide +kernel
theorem dX2_placeToClear_34 : decode cX2_placeToClear 34 = .ok (.iload_n 3, 1) := by decide +kernel
theorem dX2_placeToClear_35 : decode cX2_placeToClear 35 = .ok (.invokevirtual 38, 3) := by decide +kernel
theorem dX2_placeToClear_38 : decode cX2_placeToClear 38 = .ok (.if_icmp .ge 7, 3) := by decide +kernel
theorem dX2_placeToClear_41 : decode cX2_placeToClear 41 = .ok (.iconst 1, 1) := by decide +kernel
theorem dX2_placeToClear_42 : decode cX2_placeToClear 42 = .ok (.goto 15, 3) := by decide +kernel
theorem dX2_placeToClear_45 : decode cX2_placeToClear 45 = .ok (.iconst 0, 1) := by decide +kernel
theorem dX2_placeToClear_46 : decode cX2_placeToClear 46 = .ok (.goto 11, 3) := by decide +kernel
theorem dX2_placeToClear_49 : decode cX2_placeToClear 49 = .ok (.aload_n 0, 1) := by decide +kernel
theorem dX2_placeToClear_50 : decode cX2_placeToClear 50 = .ok (.iload 4, 2) := by decide +kernel
theorem dX2_placeToClear_52 : decode cX2_placeToClear 52 = .ok (.iload_n 3, 1) := by decide +kernel
theorem dX2_placeToClear_53 : decode cX2_placeToClear 53 = .ok (.iload_n 2, 1) := by decide +kernel
theorem dX2_placeToClear_54 : decode cX2_placeToClear 54 = .ok (.invokevirtual 70, 3) := by decide +kernel
theorem dX2_placeToClear_57 : decode cX2_placeToClear 57 = .ok (.istore 5, 2) := by decide +kernel
theorem dX2_placeToClear_59 : decode cX2_placeToClear 59 = .ok (.iload 5, 2) := by decide +kernel
theorem dX2_placeToClear_61 : decode cX2_placeToClear 61 = .ok (.ifCond .eq 8, 3) := by decide +kernel
theorem dX2_placeToClear_64 : decode cX2_placeToClear 64 = .ok (.iload 4, 2) := by decide +kernel
theorem dX2_placeToClear_66 : decode cX2_placeToClear 66 = .ok (.goto 4, 3) := by decide +kernel
theorem dX2_placeToClear_69 : decode cX2_placeToClear 69 = .ok (.iload_n 3, 1) := by decide +kernel
theorem dX2_placeToClear_70 : decode cX2_placeToClear 70 = .ok (.istore_n 3, 1) := by decide +kernel
theorem dX2_placeToClear_71 : decode cX2_placeToClear 71 = .ok (.iinc 4 1, 3) := by decide +kernel
theorem dX2_placeToClear_74 : decode cX2_placeToClear 74 = .ok (.goto (-69), 3) := by decide +kernel
theorem dX2_placeToClear_77 : decode cX2_placeToClear 77 = .ok (.iload_n 3, 1) := by decide +kernel
theorem dX2_placeToClear_78 : decode cX2_placeToClear 78 = .ok (.ireturn, 1) := by decide +kernel
abbrev MX2_placeToClear : MI := (RX2, cX2_placeToClear, 6, 4, false)
def lcX2_placeToClear_1 : Ex Bool := (ltI (lvI 4) (calX decI (ckV 5 0) mX5_size (agC va_rf (getR 2 1 (lvR 0)) agN)))
def lbX2_placeToClear_1 : St := (forB (scS 5 (seqS (lsI 5 (iteX (eq0 (lvI 1)) (iteX (ltI (calX decI (ckV 5 1) mX5_at (agC va_rf (getR 2 2 (lvR 0)) (agC Value.int (lvI 4) agN))) (calX decI (ckV 5 1) mX5_at (agC va_rf (getR 2 2 (lvR 0)) (agC Value.int (lvI 3) agN)))) (ciI (iI 1)) (ciI (iI 0))) (calX decI (ckV 2 3) mX2_isLater (agC va_rf (lvR 0) (agC Value.int (lvI 4) (agC Value.int (lvI 3) (agC Value.int (lvI 2) agN))))))) (lsI 3 (iteX (ne0 (lvI 5)) (lvI 4) (lvI 3))))) (incI 4 (iI 1)))
def bX2_placeToClear : St := (seqS (lsI 3 (ciI (iI 0))) (seqS (scS 4 (seqS (lsI 4 (ciI (iI 1))) (whileS lcX2_placeToClear_1 lbX2_placeToClear_1))) (retI (lvI 3))))
theorem jX2_placeToClear : JS MX2_placeToClear 0 0 0 79 [] bX2_placeToClear :=
  (JS.seq (pc1 := 2) (JS.is (pc1 := 1) (k := 3) (JX.ic (n := 0) rfl dX2_placeToClear_0) rfl (show 3 < 6 by decide) dX2_placeToClear_1) (JS.seq (pc1 := 77) (JS.sc (JS.seq (pc1 := 5) (JS.is2 (pc1 := 3) (JX.ic (n := 1) rfl dX2_placeToClear_2) (show 4 < 6 by decide) dX2_placeToClear_3) (JS.while (l := 77) (lb := 77) (pc1 := 17) (pc2 := 74) (pc3 := 77) (CJ.lt_f (tgt := 77) (pc1 := 7) (pc2 := 14) (JX.il2 dX2_placeToClear_5) (JX.call (pc1 := 11) decI_ok (JA.r (JX.getR (pc1 := 8) (c := 2) (k := 1) (i := 18) (JX.al (k := 0) rfl dX2_placeToClear_7) cl2 (by decide) rfl fk2_18 dX2_placeToClear_8) JA.nil) aX5_size (RunK.V (i := 53) (c := 5) (n := 0) cl5 rfl (CN nX5_size (by decide) (by decide)) gw1007 gw587 gw588 dX2_placeToClear_11) (by decide)) dX2_placeToClear_14 rfl) (JS.forb (pc1 := 71) (JS.sc (JS.seq (pc1 := 59) (JS.is2 (pc1 := 57) (JX.ite (l := 49) (pc1 := 21) (pc2 := 46) (pc3 := 57) (lend := 57) (CJ.eq0_f (tgt := 49) (pc1 := 18) (JX.il (k := 1) rfl dX2_placeToClear_17) dX2_placeToClear_18 rfl) (JX.ite (l := 45) (pc1 := 41) (pc2 := 42) (pc3 := 46) (lend := 57) (CJ.lt_f (tgt := 45) (pc1 := 30) (pc2 := 38) (JX.call (pc1 := 27) decI_ok (JA.r (JX.getR (pc1 := 22) (c := 2) (k := 2) (i := 21) (JX.al (k := 0) rfl dX2_placeToClear_21) cl2 (by decide) rfl fk2_21 dX2_placeToClear_22) (JA.i (JX.il2 dX2_placeToClear_25) JA.nil)) aX5_at (RunK.V (i := 38) (c := 5) (n := 1) cl5 rfl (CN nX5_at (by decide) (by decide)) gw1000 gw595 gw596 dX2_placeToClear_27) (by decide)) (JX.call (pc1 := 35) decI_ok (JA.r (JX.getR (pc1 := 31) (c := 2) (k := 2) (i := 21) (JX.al (k := 0) rfl dX2_placeToClear_30) cl2 (by decide) rfl fk2_21 dX2_placeToClear_31) (JA.i (JX.il (k := 3) rfl dX2_placeToClear_34) JA.nil)) aX5_at (RunK.V (i := 38) (c := 5) (n := 1) cl5 rfl (CN nX5_at (by decide) (by decide)) gw1000 gw595 gw596 dX2_placeToClear_35) (by decide)) dX2_placeToClear_38 rfl) (JX.ic (n := 1) rfl dX2_placeToClear_41) dX2_placeToClear_42 rfl (JX.ic (n := 0) rfl dX2_placeToClear_45) (Or.inr (List.mem_singleton.mpr rfl))) dX2_placeToClear_46 rfl (JX.call (pc1 := 54) decI_ok (JA.r (JX.al (k := 0) rfl dX2_placeToClear_49) (JA.i (JX.il2 dX2_placeToClear_50) (JA.i (JX.il (k := 3) rfl dX2_placeToClear_52) (JA.i (JX.il (k := 2) rfl dX2_placeToClear_53) JA.nil)))) aX2_isLater (RunK.V (i := 70) (c := 2) (n := 3) cl2 rfl (CN nX2_isLater (by decide) (by decide)) gw1017 gw1019 gs37 dX2_placeToClear_54) (by decide)) (Or.inl rfl)) (show 5 < 6 by decide) dX2_placeToClear_57) (JS.is (pc1 := 70) (k := 3) (JX.ite (l := 69) (pc1 := 64) (pc2 := 66) (pc3 := 70) (lend := 70) (CJ.ne0_f (tgt := 69) (pc1 := 61) (JX.il2 dX2_placeToClear_59) dX2_placeToClear_61 rfl) (JX.il2 dX2_placeToClear_64) dX2_placeToClear_66 rfl (JX.il (k := 3) rfl dX2_placeToClear_69) (Or.inl rfl)) rfl (show 3 < 6 by decide) dX2_placeToClear_70))) (JS.inc (n := 1) rfl (show 4 < 6 by decide) dX2_placeToClear_71)) dX2_placeToClear_74 rfl (Or.inl rfl) (Or.inl rfl)))) (JS.retI (pc1 := 78) (JX.il (k := 3) rfl dX2_placeToClear_77) dX2_placeToClear_78)))
def mX2_placeToClear : MS := runM 6 (some (.int)) bX2_placeToClear
theorem aX2_placeToClear : MA yX2_placeToClear cX2_placeToClear 6 (some (.int)) 4 mX2_placeToClear := MA.of (plainFor_of_name (by decide)) jX2_placeToClear
theorem eX2_placeToClear (a0 : Nat) (a1 : Int32) (a2 : Int32) (h : AH) : mX2_placeToClear [.ref a0, .int a1, .int a2] h = (bX2_placeToClear [.val (.ref a0), .val (.int a1), .val (.int a2), .unset, .unset, .unset] h).bind (finM (some (.int))) := rfl
/-! Desk.count -/
theorem dX2_count_0 : decode cX2_count 0 = .ok (.aload_n 0, 1) := by decide +kernel
theorem dX2_count_1 : decode cX2_count 1 = .ok (.getfield 18, 3) := by decide +kernel
theorem dX2_count_4 : decode cX2_count 4 = .ok (.invokevirtual 24, 3) := by decide +kernel
theorem dX2_count_7 : decode cX2_count 7 = .ok (.aload_n 0, 1) := by decide +kernel
theorem dX2_count_8 : decode cX2_count 8 = .ok (.getfield 21, 3) := by decide +kernel
theorem dX2_count_11 : decode cX2_count 11 = .ok (.invokevirtual 24, 3) := by decide +kernel
theorem dX2_count_14 : decode cX2_count 14 = .ok (.iconst 0, 1) := by decide +kernel
theorem dX2_count_15 : decode cX2_count 15 = .ok (.istore_n 3, 1) := by decide +kernel
theorem dX2_count_16 : decode cX2_count 16 = .ok (.iconst 0, 1) := by decide +kernel
theorem dX2_count_17 : decode cX2_count 17 = .ok (.istore 4, 2) := by decide +kernel
theorem dX2_count_19 : decode cX2_count 19 = .ok (.iload 4, 2) := by decide +kernel
theorem dX2_count_21 : decode cX2_count 21 = .ok (.aload_n 0, 1) := by decide +kernel
theorem dX2_count_22 : decode cX2_count 22 = .ok (.getfield 12, 3) := by decide +kernel
theorem dX2_count_25 : decode cX2_count 25 = .ok (.invokevirtual 53, 3) := by decide +kernel
theorem dX2_count_28 : decode cX2_count 28 = .ok (.if_icmp .ge 92, 3) := by decide +kernel
theorem dX2_count_31 : decode cX2_count 31 = .ok (.aload_n 0, 1) := by decide +kernel
theorem dX2_count_32 : decode cX2_count 32 = .ok (.getfield 18, 3) := by decide +kernel
theorem dX2_count_35 : decode cX2_count 35 = .ok (.aload_n 0, 1) := by decide +kernel
theorem dX2_count_36 : decode cX2_count 36 = .ok (.getfield 12, 3) := by decide +kernel
theorem dX2_count_39 : decode cX2_count 39 = .ok (.iload 4, 2) := by decide +kernel
theorem dX2_count_41 : decode cX2_count 41 = .ok (.invokevirtual 38, 3) := by decide +kernel
theorem dX2_count_44 : decode cX2_count 44 = .ok (.invokevirtual 57, 3) := by decide +kernel
theorem dX2_count_47 : decode cX2_count 47 = .ok (.istore 5, 2) := by decide +kernel
theorem dX2_count_49 : decode cX2_count 49 = .ok (.iload 5, 2) := by decide +kernel
theorem dX2_count_51 : decode cX2_count 51 = .ok (.iconst (-1), 1) := by decide +kernel
theorem dX2_count_52 : decode cX2_count 52 = .ok (.if_icmp .ne 51, 3) := by decide +kernel
theorem dX2_count_55 : decode cX2_count 55 = .ok (.iinc 3 1, 3) := by decide +kernel
theorem dX2_count_58 : decode cX2_count 58 = .ok (.aload_n 0, 1) := by decide +kernel
theorem dX2_count_59 : decode cX2_count 59 = .ok (.getfield 18, 3) := by decide +kernel
theorem dX2_count_62 : decode cX2_count 62 = .ok (.invokevirtual 53, 3) := by decide +kernel
theorem dX2_count_65 : decode cX2_count 65 = .ok (.iload_n 1, 1) := by decide +kernel
theorem dX2_count_66 : decode cX2_count 66 = .ok (.if_icmp .ge 10, 3) := by decide +kernel
theorem dX2_count_69 : decode cX2_count 69 = .ok (.aload_n 0, 1) := by decide +kernel
theorem dX2_count_70 : decode cX2_count 70 = .ok (.invokevirtual 60, 3) := by decide +kernel
theorem dX2_count_73 : decode cX2_count 73 = .ok (.goto 10, 3) := by decide +kernel
theorem dX2_count_76 : decode cX2_count 76 = .ok (.aload_n 0, 1) := by decide +kernel
theorem dX2_count_77 : decode cX2_count 77 = .ok (.iload_n 2, 1) := by decide +kernel
theorem dX2_count_78 : decode cX2_count 78 = .ok (.iload 4, 2) := by decide +kernel
theorem dX2_count_80 : decode cX2_count 80 = .ok (.invokevirtual 63, 3) := by decide +kernel
theorem dX2_count_83 : decode cX2_count 83 = .ok (.istore 5, 2) := by decide +kernel
theorem dX2_count_85 : decode cX2_count 85 = .ok (.aload_n 0, 1) := by decide +kernel
theorem dX2_count_86 : decode cX2_count 86 = .ok (.getfield 18, 3) := by decide +kernel
theorem dX2_count_89 : decode cX2_count 89 = .ok (.iload 5, 2) := by decide +kernel
theorem dX2_count_91 : decode cX2_count 91 = .ok (.aload_n 0, 1) := by decide +kernel
theorem dX2_count_92 : decode cX2_count 92 = .ok (.getfield 12, 3) := by decide +kernel
theorem dX2_count_95 : decode cX2_count 95 = .ok (.iload 4, 2) := by decide +kernel
theorem dX2_count_97 : decode cX2_count 97 = .ok (.invokevirtual 38, 3) := by decide +kernel
theorem dX2_count_100 : decode cX2_count 100 = .ok (.invokevirtual 66, 3) := by decide +kernel
theorem dX2_count_103 : decode cX2_count 103 = .ok (.aload_n 0, 1) := by decide +kernel
theorem dX2_count_104 : decode cX2_count 104 = .ok (.getfield 21, 3) := by decide +kernel
theorem dX2_count_107 : decode cX2_count 107 = .ok (.iload 5, 2) := by decide +kernel
theorem dX2_count_109 : decode cX2_count 109 = .ok (.iload 4, 2) := by decide +kernel
theorem dX2_count_111 : decode cX2_count 111 = .ok (.invokevirtual 66, 3) := by decide +kernel
theorem dX2_count_114 : decode cX2_count 114 = .ok (.iinc 4 1, 3) := by decide +kernel
theorem dX2_count_117 : decode cX2_count 117 = .ok (.goto (-98), 3) := by decide +kernel
theorem dX2_count_120 : decode cX2_count 120 = .ok (.iload_n 3, 1) := by decide +kernel
theorem dX2_count_121 : decode cX2_count 121 = .ok (.ireturn, 1) := by decide +kernel
abbrev MX2_count : MI := (RX2, cX2_count, 6, 5, false)
def lcX2_count_1 : Ex Bool := (ltI (lvI 4) (calX decI (ckV 5 0) mX5_size (agC va_rf (getR 2 0 (lvR 0)) agN)))
def lbX2_count_1 : St := (forB (scS 5 (seqS (lsI 5 (calX decI (ckV 5 1) mX5_indexOf (agC va_rf (getR 2 1 (lvR 0)) (agC Value.int (calX decI (ckV 5 1) mX5_at (agC va_rf (getR 2 0 (lvR 0)) (agC Value.int (lvI 4) agN))) agN)))) (seqS (ifS (eqI (lvI 5) (ciI (iI (-1)))) (seqS (incI 3 (iI 1)) (seqS (lsI 5 (iteX (ltI (calX decI (ckV 5 0) mX5_size (agC va_rf (getR 2 1 (lvR 0)) agN)) (lvI 1)) (calX decI (ckV 2 0) mX2_freePlace (agC va_rf (lvR 0) agN)) (calX decI (ckV 2 2) mX2_placeToClear (agC va_rf (lvR 0) (agC Value.int (lvI 2) (agC Value.int (lvI 4) agN)))))) (calS (ckV 5 2) mX5_put (agC va_rf (getR 2 1 (lvR 0)) (agC Value.int (lvI 5) (agC Value.int (calX decI (ckV 5 1) mX5_at (agC va_rf (getR 2 0 (lvR 0)) (agC Value.int (lvI 4) agN))) agN))))))) (calS (ckV 5 2) mX5_put (agC va_rf (getR 2 2 (lvR 0)) (agC Value.int (lvI 5) (agC Value.int (lvI 4) agN))))))) (incI 4 (iI 1)))
def bX2_count : St := (seqS (calS (ckV 5 0) mX5_clear (agC va_rf (getR 2 1 (lvR 0)) agN)) (seqS (calS (ckV 5 0) mX5_clear (agC va_rf (getR 2 2 (lvR 0)) agN)) (seqS (lsI 3 (ciI (iI 0))) (seqS (scS 4 (seqS (lsI 4 (ciI (iI 0))) (whileS lcX2_count_1 lbX2_count_1))) (retI (lvI 3))))))
theorem jX2_count : JS MX2_count 0 0 0 122 [] bX2_count :=
  (JS.seq (pc1 := 7) (JS.call (pc1 := 4) (JA.r (JX.getR (pc1 := 1) (c := 2) (k := 1) (i := 18) (JX.al (k := 0) rfl dX2_count_0) cl2 (by decide) rfl fk2_18 dX2_count_1) JA.nil) aX5_clear (RunK.V (i := 24) (c := 5) (n := 0) cl5 rfl (CN nX5_clear (by decide) (by decide)) gw999 gw209 gw210 dX2_count_4)) (JS.seq (pc1 := 14) (JS.call (pc1 := 11) (JA.r (JX.getR (pc1 := 8) (c := 2) (k := 2) (i := 21) (JX.al (k := 0) rfl dX2_count_7) cl2 (by decide) rfl fk2_21 dX2_count_8) JA.nil) aX5_clear (RunK.V (i := 24) (c := 5) (n := 0) cl5 rfl (CN nX5_clear (by decide) (by decide)) gw999 gw209 gw210 dX2_count_11)) (JS.seq (pc1 := 16) (JS.is (pc1 := 15) (k := 3) (JX.ic (n := 0) rfl dX2_count_14) rfl (show 3 < 6 by decide) dX2_count_15) (JS.seq (pc1 := 120) (JS.sc (JS.seq (pc1 := 19) (JS.is2 (pc1 := 17) (JX.ic (n := 0) rfl dX2_count_16) (show 4 < 6 by decide) dX2_count_17) (JS.while (l := 120) (lb := 120) (pc1 := 31) (pc2 := 117) (pc3 := 120) (CJ.lt_f (tgt := 120) (pc1 := 21) (pc2 := 28) (JX.il2 dX2_count_19) (JX.call (pc1 := 25) decI_ok (JA.r (JX.getR (pc1 := 22) (c := 2) (k := 0) (i := 12) (JX.al (k := 0) rfl dX2_count_21) cl2 (by decide) rfl fk2_12 dX2_count_22) JA.nil) aX5_size (RunK.V (i := 53) (c := 5) (n := 0) cl5 rfl (CN nX5_size (by decide) (by decide)) gw1007 gw587 gw588 dX2_count_25) (by decide)) dX2_count_28 rfl) (JS.forb (pc1 := 114) (JS.sc (JS.seq (pc1 := 49) (JS.is2 (pc1 := 47) (JX.call (pc1 := 44) decI_ok (JA.r (JX.getR (pc1 := 32) (c := 2) (k := 1) (i := 18) (JX.al (k := 0) rfl dX2_count_31) cl2 (by decide) rfl fk2_18 dX2_count_32) (JA.i (JX.call (pc1 := 41) decI_ok (JA.r (JX.getR (pc1 := 36) (c := 2) (k := 0) (i := 12) (JX.al (k := 0) rfl dX2_count_35) cl2 (by decide) rfl fk2_12 dX2_count_36) (JA.i (JX.il2 dX2_count_39) JA.nil)) aX5_at (RunK.V (i := 38) (c := 5) (n := 1) cl5 rfl (CN nX5_at (by decide) (by decide)) gw1000 gw595 gw596 dX2_count_41) (by decide)) JA.nil)) aX5_indexOf (RunK.V (i := 57) (c := 5) (n := 1) cl5 rfl (CN nX5_indexOf (by decide) (by decide)) gw1008 gw649 gw650 dX2_count_44) (by decide)) (show 5 < 6 by decide) dX2_count_47) (JS.seq (pc1 := 103) (JS.iff (l := 103) (pc1 := 55) (CJ.eq_f (tgt := 103) (pc1 := 51) (pc2 := 52) (JX.il2 dX2_count_49) (JX.ic (n := (-1)) rfl dX2_count_51) dX2_count_52 rfl) (JS.seq (pc1 := 58) (JS.inc (n := 1) rfl (show 3 < 6 by decide) dX2_count_55) (JS.seq (pc1 := 85) (JS.is2 (pc1 := 83) (JX.ite (l := 76) (pc1 := 69) (pc2 := 73) (pc3 := 83) (lend := 83) (CJ.lt_f (tgt := 76) (pc1 := 65) (pc2 := 66) (JX.call (pc1 := 62) decI_ok (JA.r (JX.getR (pc1 := 59) (c := 2) (k := 1) (i := 18) (JX.al (k := 0) rfl dX2_count_58) cl2 (by decide) rfl fk2_18 dX2_count_59) JA.nil) aX5_size (RunK.V (i := 53) (c := 5) (n := 0) cl5 rfl (CN nX5_size (by decide) (by decide)) gw1007 gw587 gw588 dX2_count_62) (by decide)) (JX.il (k := 1) rfl dX2_count_65) dX2_count_66 rfl) (JX.call (pc1 := 70) decI_ok (JA.r (JX.al (k := 0) rfl dX2_count_69) JA.nil) aX2_freePlace (RunK.V (i := 60) (c := 2) (n := 0) cl2 rfl (CN nX2_freePlace (by decide) (by decide)) gw1009 gw1011 gs35 dX2_count_70) (by decide)) dX2_count_73 rfl (JX.call (pc1 := 80) decI_ok (JA.r (JX.al (k := 0) rfl dX2_count_76) (JA.i (JX.il (k := 2) rfl dX2_count_77) (JA.i (JX.il2 dX2_count_78) JA.nil))) aX2_placeToClear (RunK.V (i := 63) (c := 2) (n := 2) cl2 rfl (CN nX2_placeToClear (by decide) (by decide)) gw1013 gw1015 gs36 dX2_count_80) (by decide)) (Or.inl rfl)) (show 5 < 6 by decide) dX2_count_83) (JS.call (pc1 := 100) (JA.r (JX.getR (pc1 := 86) (c := 2) (k := 1) (i := 18) (JX.al (k := 0) rfl dX2_count_85) cl2 (by decide) rfl fk2_18 dX2_count_86) (JA.i (JX.il2 dX2_count_89) (JA.i (JX.call (pc1 := 97) decI_ok (JA.r (JX.getR (pc1 := 92) (c := 2) (k := 0) (i := 12) (JX.al (k := 0) rfl dX2_count_91) cl2 (by decide) rfl fk2_12 dX2_count_92) (JA.i (JX.il2 dX2_count_95) JA.nil)) aX5_at (RunK.V (i := 38) (c := 5) (n := 1) cl5 rfl (CN nX5_at (by decide) (by decide)) gw1000 gw595 gw596 dX2_count_97) (by decide)) JA.nil))) aX5_put (RunK.V (i := 66) (c := 5) (n := 2) cl5 rfl (CN nX5_put (by decide) (by decide)) gw1025 gw599 gw600 dX2_count_100)))) (Or.inl rfl)) (JS.call (pc1 := 111) (JA.r (JX.getR (pc1 := 104) (c := 2) (k := 2) (i := 21) (JX.al (k := 0) rfl dX2_count_103) cl2 (by decide) rfl fk2_21 dX2_count_104) (JA.i (JX.il2 dX2_count_107) (JA.i (JX.il2 dX2_count_109) JA.nil))) aX5_put (RunK.V (i := 66) (c := 5) (n := 2) cl5 rfl (CN nX5_put (by decide) (by decide)) gw1025 gw599 gw600 dX2_count_111))))) (JS.inc (n := 1) rfl (show 4 < 6 by decide) dX2_count_114)) dX2_count_117 rfl (Or.inl rfl) (Or.inl rfl)))) (JS.retI (pc1 := 121) (JX.il (k := 3) rfl dX2_count_120) dX2_count_121)))))
def mX2_count : MS := runM 6 (some (.int)) bX2_count
theorem aX2_count : MA yX2_count cX2_count 6 (some (.int)) 5 mX2_count := MA.of (plainFor_of_name (by decide)) jX2_count
theorem eX2_count (a0 : Nat) (a1 : Int32) (a2 : Int32) (h : AH) : mX2_count [.ref a0, .int a1, .int a2] h = (bX2_count [.val (.ref a0), .val (.int a1), .val (.int a2), .unset, .unset, .unset] h).bind (finM (some (.int))) := rfl
/-! Desk.visit -/
theorem dX2_visit_0 : decode cX2_visit 0 = .ok (.aload_n 0, 1) := by decide +kernel
theorem dX2_visit_1 : decode cX2_visit 1 = .ok (.getfield 12, 3) := by decide +kernel
theorem dX2_visit_4 : decode cX2_visit 4 = .ok (.invokevirtual 24, 3) := by decide +kernel
theorem dX2_visit_7 : decode cX2_visit 7 = .ok (.iconst 0, 1) := by decide +kernel
theorem dX2_visit_8 : decode cX2_visit 8 = .ok (.istore_n 3, 1) := by decide +kernel
theorem dX2_visit_9 : decode cX2_visit 9 = .ok (.iload_n 3, 1) := by decide +kernel
theorem dX2_visit_10 : decode cX2_visit 10 = .ok (.aload_n 1, 1) := by decide +kernel
theorem dX2_visit_11 : decode cX2_visit 11 = .ok (.getfield 27, 3) := by decide +kernel
theorem dX2_visit_14 : decode cX2_visit 14 = .ok (.getfield 33, 3) := by decide +kernel
theorem dX2_visit_17 : decode cX2_visit 17 = .ok (.iload_n 2, 1) := by decide +kernel
theorem dX2_visit_18 : decode cX2_visit 18 = .ok (.invokevirtual 38, 3) := by decide +kernel
theorem dX2_visit_21 : decode cX2_visit 21 = .ok (.if_icmp .ge 32, 3) := by decide +kernel
theorem dX2_visit_24 : decode cX2_visit 24 = .ok (.aload_n 0, 1) := by decide +kernel
theorem dX2_visit_25 : decode cX2_visit 25 = .ok (.getfield 12, 3) := by decide +kernel
theorem dX2_visit_28 : decode cX2_visit 28 = .ok (.aload_n 1, 1) := by decide +kernel
theorem dX2_visit_29 : decode cX2_visit 29 = .ok (.getfield 27, 3) := by decide +kernel
theorem dX2_visit_32 : decode cX2_visit 32 = .ok (.getfield 42, 3) := by decide +kernel
theorem dX2_visit_35 : decode cX2_visit 35 = .ok (.aload_n 1, 1) := by decide +kernel
theorem dX2_visit_36 : decode cX2_visit 36 = .ok (.iload_n 2, 1) := by decide +kernel
theorem dX2_visit_37 : decode cX2_visit 37 = .ok (.iload_n 3, 1) := by decide +kernel
theorem dX2_visit_38 : decode cX2_visit 38 = .ok (.invokevirtual 45, 3) := by decide +kernel
theorem dX2_visit_41 : decode cX2_visit 41 = .ok (.invokevirtual 38, 3) := by decide +kernel
theorem dX2_visit_44 : decode cX2_visit 44 = .ok (.invokevirtual 49, 3) := by decide +kernel
theorem dX2_visit_47 : decode cX2_visit 47 = .ok (.iinc 3 1, 3) := by decide +kernel
theorem dX2_visit_50 : decode cX2_visit 50 = .ok (.goto (-41), 3) := by decide +kernel
theorem dX2_visit_53 : decode cX2_visit 53 = .ok (.return_, 1) := by decide +kernel
abbrev MX2_visit : MI := (RX2, cX2_visit, 4, 3, false)
def lcX2_visit_1 : Ex Bool := (ltI (lvI 3) (calX decI (ckV 5 1) mX5_at (agC va_rf (getR 9 9 (getR 10 10 (lvR 1))) (agC Value.int (lvI 2) agN))))
def lbX2_visit_1 : St := (forB (calS (ckV 5 1) mX5_add (agC va_rf (getR 2 0 (lvR 0)) (agC Value.int (calX decI (ckV 5 1) mX5_at (agC va_rf (getR 9 2 (getR 10 10 (lvR 1))) (agC Value.int (calX decI (ckV 10 2) mX10_spotOf (agC va_rf (lvR 1) (agC Value.int (lvI 2) (agC Value.int (lvI 3) agN)))) agN))) agN))) (incI 3 (iI 1)))
def bX2_visit : St := (seqS (calS (ckV 5 0) mX5_clear (agC va_rf (getR 2 0 (lvR 0)) agN)) (seqS (scS 3 (seqS (lsI 3 (ciI (iI 0))) (whileS lcX2_visit_1 lbX2_visit_1))) retV))
theorem jX2_visit : JS MX2_visit 0 0 0 54 [] bX2_visit :=
  (JS.seq (pc1 := 7) (JS.call (pc1 := 4) (JA.r (JX.getR (pc1 := 1) (c := 2) (k := 0) (i := 12) (JX.al (k := 0) rfl dX2_visit_0) cl2 (by decide) rfl fk2_12 dX2_visit_1) JA.nil) aX5_clear (RunK.V (i := 24) (c := 5) (n := 0) cl5 rfl (CN nX5_clear (by decide) (by decide)) gw999 gw209 gw210 dX2_visit_4)) (JS.seq (pc1 := 53) (JS.sc (JS.seq (pc1 := 9) (JS.is (pc1 := 8) (k := 3) (JX.ic (n := 0) rfl dX2_visit_7) rfl (show 3 < 4 by decide) dX2_visit_8) (JS.while (l := 53) (lb := 53) (pc1 := 24) (pc2 := 50) (pc3 := 53) (CJ.lt_f (tgt := 53) (pc1 := 10) (pc2 := 21) (JX.il (k := 3) rfl dX2_visit_9) (JX.call (pc1 := 18) decI_ok (JA.r (JX.getR (pc1 := 14) (c := 9) (k := 9) (i := 33) (JX.getR (pc1 := 11) (c := 10) (k := 10) (i := 27) (JX.al (k := 1) rfl dX2_visit_10) cl10 (by decide) rfl fk2_27 dX2_visit_11) cl9 (by decide) rfl fk2_33 dX2_visit_14) (JA.i (JX.il (k := 2) rfl dX2_visit_17) JA.nil)) aX5_at (RunK.V (i := 38) (c := 5) (n := 1) cl5 rfl (CN nX5_at (by decide) (by decide)) gw1000 gw595 gw596 dX2_visit_18) (by decide)) dX2_visit_21 rfl) (JS.forb (pc1 := 47) (JS.call (pc1 := 44) (JA.r (JX.getR (pc1 := 25) (c := 2) (k := 0) (i := 12) (JX.al (k := 0) rfl dX2_visit_24) cl2 (by decide) rfl fk2_12 dX2_visit_25) (JA.i (JX.call (pc1 := 41) decI_ok (JA.r (JX.getR (pc1 := 32) (c := 9) (k := 2) (i := 42) (JX.getR (pc1 := 29) (c := 10) (k := 10) (i := 27) (JX.al (k := 1) rfl dX2_visit_28) cl10 (by decide) rfl fk2_27 dX2_visit_29) cl9 (by decide) rfl fk2_42 dX2_visit_32) (JA.i (JX.call (pc1 := 38) decI_ok (JA.r (JX.al (k := 1) rfl dX2_visit_35) (JA.i (JX.il (k := 2) rfl dX2_visit_36) (JA.i (JX.il (k := 3) rfl dX2_visit_37) JA.nil))) aX10_spotOf (RunK.V (i := 45) (c := 10) (n := 2) cl10 rfl (CN nX10_spotOf (by decide) (by decide)) gw1001 gw794 gw795 dX2_visit_38) (by decide)) JA.nil)) aX5_at (RunK.V (i := 38) (c := 5) (n := 1) cl5 rfl (CN nX5_at (by decide) (by decide)) gw1000 gw595 gw596 dX2_visit_41) (by decide)) JA.nil)) aX5_add (RunK.V (i := 49) (c := 5) (n := 1) cl5 rfl (CN nX5_add (by decide) (by decide)) gw1002 gw121 gw122 dX2_visit_44)) (JS.inc (n := 1) rfl (show 3 < 4 by decide) dX2_visit_47)) dX2_visit_50 rfl (Or.inl rfl) (Or.inl rfl)))) (JS.retV dX2_visit_53)))
def mX2_visit : MS := runM 4 none bX2_visit
theorem aX2_visit : MA yX2_visit cX2_visit 4 none 3 mX2_visit := MA.of (plainFor_of_name (by decide)) jX2_visit
theorem eX2_visit (a0 : Nat) (a1 : Nat) (a2 : Int32) (h : AH) : mX2_visit [.ref a0, .ref a1, .int a2] h = (bX2_visit [.val (.ref a0), .val (.ref a1), .val (.int a2), .unset] h).bind (finM none) := rfl
/-! PieceStore.fetches -/
theorem dX11_fetches_0 : decode cX11_fetches 0 = .ok (.aload_n 0, 1) := by decide +kernel
theorem dX11_fetches_1 : decode cX11_fetches 1 = .ok (.getfield 29, 3) := by decide +kernel
theorem dX11_fetches_4 : decode cX11_fetches 4 = .ok (.iload_n 1, 1) := by decide +kernel
theorem dX11_fetches_5 : decode cX11_fetches 5 = .ok (.invokevirtual 154, 3) := by decide +kernel
theorem dX11_fetches_8 : decode cX11_fetches 8 = .ok (.ifCond .eq 12, 3) := by decide +kernel
theorem dX11_fetches_11 : decode cX11_fetches 11 = .ok (.iload_n 2, 1) := by decide +kernel
theorem dX11_fetches_12 : decode cX11_fetches 12 = .ok (.ifCond .lt 8, 3) := by decide +kernel
theorem dX11_fetches_15 : decode cX11_fetches 15 = .ok (.iload_n 2, 1) := by decide +kernel
theorem dX11_fetches_16 : decode cX11_fetches 16 = .ok (.iconst 1, 1) := by decide +kernel
theorem dX11_fetches_17 : decode cX11_fetches 17 = .ok (.if_icmp .le 5, 3) := by decide +kernel
theorem dX11_fetches_20 : decode cX11_fetches 20 = .ok (.iconst (-1), 1) := by decide +kernel
theorem dX11_fetches_21 : decode cX11_fetches 21 = .ok (.ireturn, 1) := by decide +kernel
theorem dX11_fetches_22 : decode cX11_fetches 22 = .ok (.aload_n 0, 1) := by decide +kernel
theorem dX11_fetches_23 : decode cX11_fetches 23 = .ok (.getfield 36, 3) := by decide +kernel
theorem dX11_fetches_26 : decode cX11_fetches 26 = .ok (.aload_n 0, 1) := by decide +kernel
theorem dX11_fetches_27 : decode cX11_fetches 27 = .ok (.getfield 29, 3) := by decide +kernel
theorem dX11_fetches_30 : decode cX11_fetches 30 = .ok (.iload_n 1, 1) := by decide +kernel
theorem dX11_fetches_31 : decode cX11_fetches 31 = .ok (.invokevirtual 237, 3) := by decide +kernel
theorem dX11_fetches_34 : decode cX11_fetches 34 = .ok (.aload_n 0, 1) := by decide +kernel
theorem dX11_fetches_35 : decode cX11_fetches 35 = .ok (.getfield 36, 3) := by decide +kernel
theorem dX11_fetches_38 : decode cX11_fetches 38 = .ok (.aload_n 0, 1) := by decide +kernel
theorem dX11_fetches_39 : decode cX11_fetches 39 = .ok (.getfield 29, 3) := by decide +kernel
theorem dX11_fetches_42 : decode cX11_fetches 42 = .ok (.getfield 93, 3) := by decide +kernel
theorem dX11_fetches_45 : decode cX11_fetches 45 = .ok (.bipush 7, 2) := by decide +kernel
theorem dX11_fetches_47 : decode cX11_fetches 47 = .ok (.invokevirtual 106, 3) := by decide +kernel
theorem dX11_fetches_50 : decode cX11_fetches 50 = .ok (.iload_n 2, 1) := by decide +kernel
theorem dX11_fetches_51 : decode cX11_fetches 51 = .ok (.invokevirtual 241, 3) := by decide +kernel
theorem dX11_fetches_54 : decode cX11_fetches 54 = .ok (.ireturn, 1) := by decide +kernel
abbrev MX11_fetches : MI := (RX11, cX11_fetches, 3, 6, false)
def bX11_fetches : St := (seqS (ifS (orX (orX (notX (ne0 (calX decI (ckV 10 1) mX10_hasBackup (agC va_rf (getR 11 3 (lvR 0)) (agC Value.int (lvI 1) agN))))) (lt0 (lvI 2))) (gtI (lvI 2) (ciI (iI 1)))) (retI (ciI (iI (-1))))) (seqS (calS (ckV 2 2) mX2_visit (agC va_rf (getR 11 4 (lvR 0)) (agC va_rf (getR 11 3 (lvR 0)) (agC Value.int (lvI 1) agN)))) (retI (calX decI (ckV 2 2) mX2_count (agC va_rf (getR 11 4 (lvR 0)) (agC Value.int (calX decI (ckV 6 1) mX6_number (agC va_rf (getR 10 0 (getR 11 3 (lvR 0))) (agC Value.int (ciI (iI 7)) agN))) (agC Value.int (lvI 2) agN)))))))
theorem jX11_fetches : JS MX11_fetches 0 0 0 55 [] bX11_fetches :=
  (JS.seq (pc1 := 22) (JS.iff (l := 22) (pc1 := 20) (CJ.or_f (l := 20) (pc1 := 15) (CJ.or_t (pc1 := 11) (CJ.not_t (CJ.ne0_f (tgt := 20) (pc1 := 8) (JX.call (pc1 := 5) decI_ok (JA.r (JX.getR (pc1 := 1) (c := 11) (k := 3) (i := 29) (JX.al (k := 0) rfl dX11_fetches_0) cl11 (by decide) rfl fk11_29 dX11_fetches_1) (JA.i (JX.il (k := 1) rfl dX11_fetches_4) JA.nil)) aX10_hasBackup (RunK.V (i := 154) (c := 10) (n := 1) cl10 rfl (CN nX10_hasBackup (by decide) (by decide)) gw808 gw771 gw772 dX11_fetches_5) (by decide)) dX11_fetches_8 rfl)) (CJ.lt0_t (tgt := 20) (pc1 := 12) (JX.il (k := 2) rfl dX11_fetches_11) dX11_fetches_12 rfl)) (CJ.gt_f (tgt := 22) (pc1 := 16) (pc2 := 17) (JX.il (k := 2) rfl dX11_fetches_15) (JX.ic (n := 1) rfl dX11_fetches_16) dX11_fetches_17 rfl) (Or.inl rfl)) (JS.retI (pc1 := 21) (JX.ic (n := (-1)) rfl dX11_fetches_20) dX11_fetches_21) (Or.inl rfl)) (JS.seq (pc1 := 34) (JS.call (pc1 := 31) (JA.r (JX.getR (pc1 := 23) (c := 11) (k := 4) (i := 36) (JX.al (k := 0) rfl dX11_fetches_22) cl11 (by decide) rfl fk11_36 dX11_fetches_23) (JA.r (JX.getR (pc1 := 27) (c := 11) (k := 3) (i := 29) (JX.al (k := 0) rfl dX11_fetches_26) cl11 (by decide) rfl fk11_29 dX11_fetches_27) (JA.i (JX.il (k := 1) rfl dX11_fetches_30) JA.nil))) aX2_visit (RunK.V (i := 237) (c := 2) (n := 2) cl2 rfl (CN nX2_visit (by decide) (by decide)) gw995 gw996 gw997 dX11_fetches_31)) (JS.retI (pc1 := 54) (JX.call (pc1 := 51) decI_ok (JA.r (JX.getR (pc1 := 35) (c := 11) (k := 4) (i := 36) (JX.al (k := 0) rfl dX11_fetches_34) cl11 (by decide) rfl fk11_36 dX11_fetches_35) (JA.i (JX.call (pc1 := 47) decI_ok (JA.r (JX.getR (pc1 := 42) (c := 10) (k := 0) (i := 93) (JX.getR (pc1 := 39) (c := 11) (k := 3) (i := 29) (JX.al (k := 0) rfl dX11_fetches_38) cl11 (by decide) rfl fk11_29 dX11_fetches_39) cl10 (by decide) rfl fk11_93 dX11_fetches_42) (JA.i (JX.bp (n := 7) kb7 dX11_fetches_45) JA.nil)) aX6_number (RunK.V (i := 106) (c := 6) (n := 1) cl6 rfl (CN nX6_number (by decide) (by decide)) gw761 gw762 gw763 dX11_fetches_47) (by decide)) (JA.i (JX.il (k := 2) rfl dX11_fetches_50) JA.nil))) aX2_count (RunK.V (i := 241) (c := 2) (n := 2) cl2 rfl (CN nX2_count (by decide) (by decide)) gw1003 gw1004 gw1005 dX11_fetches_51) (by decide)) dX11_fetches_54)))
def mX11_fetches : MS := runM 3 (some (.int)) bX11_fetches
theorem aX11_fetches : MA yX11_fetches cX11_fetches 3 (some (.int)) 6 mX11_fetches := MA.of (plainFor_of_name (by decide)) jX11_fetches
theorem eX11_fetches (a0 : Nat) (a1 : Int32) (a2 : Int32) (h : AH) : mX11_fetches [.ref a0, .int a1, .int a2] h = (bX11_fetches [.val (.ref a0), .val (.int a1), .val (.int a2)] h).bind (finM (some (.int))) := rfl
/-! PieceStore.canPass -/
theorem dX11_canPass_0 : decode cX11_canPass 0 = .ok (.aload_n 0, 1) := by decide +kernel
theorem dX11_canPass_1 : decode cX11_canPass 1 = .ok (.getfield 54, 3) := by decide +kernel
theorem dX11_canPass_4 : decode cX11_canPass 4 = .ok (.ifCond .eq 31, 3) := by decide +kernel
theorem dX11_canPass_7 : decode cX11_canPass 7 = .ok (.iload_n 1, 1) := by decide +kernel
theorem dX11_canPass_8 : decode cX11_canPass 8 = .ok (.bipush 40, 2) := by decide +kernel
theorem dX11_canPass_10 : decode cX11_canPass 10 = .ok (.if_icmp .gt 25, 3) := by decide +kernel
theorem dX11_canPass_13 : decode cX11_canPass 13 = .ok (.aload_n 0, 1) := by decide +kernel
theorem dX11_canPass_14 : decode cX11_canPass 14 = .ok (.getfield 29, 3) := by decide +kernel
theorem dX11_canPass_17 : decode cX11_canPass 17 = .ok (.getfield 112, 3) := by decide +kernel
theorem dX11_canPass_20 : decode cX11_canPass 20 = .ok (.getfield 136, 3) := by decide +kernel
theorem dX11_canPass_23 : decode cX11_canPass 23 = .ok (.iload_n 1, 1) := by decide +kernel
theorem dX11_canPass_24 : decode cX11_canPass 24 = .ok (.iadd, 1) := by decide +kernel
theorem dX11_canPass_25 : decode cX11_canPass 25 = .ok (.sipush 999, 3) := by decide +kernel
theorem dX11_canPass_28 : decode cX11_canPass 28 = .ok (.if_icmp .gt 7, 3) := by decide +kernel
theorem dX11_canPass_31 : decode cX11_canPass 31 = .ok (.iconst 1, 1) := by decide +kernel
theorem dX11_canPass_32 : decode cX11_canPass 32 = .ok (.goto 4, 3) := by decide +kernel
theorem dX11_canPass_35 : decode cX11_canPass 35 = .ok (.iconst 0, 1) := by decide +kernel
theorem dX11_canPass_36 : decode cX11_canPass 36 = .ok (.ireturn, 1) := by decide +kernel
abbrev MX11_canPass : MI := (RX11, cX11_canPass, 2, 1, false)
def bX11_canPass : St := (retI (iteX (andX (andX (ne0 (getI 11 7 (lvR 0))) (leI (lvI 1) (ciI (iI 40)))) (leI (addI (getI 9 10 (getR 10 10 (getR 11 3 (lvR 0)))) (lvI 1)) (ciI (iI 999)))) (ciI (iI 1)) (ciI (iI 0))))
theorem jX11_canPass : JS MX11_canPass 0 0 0 37 [] bX11_canPass :=
  (JS.retI (pc1 := 36) (JX.ite (l := 35) (pc1 := 31) (pc2 := 32) (pc3 := 36) (lend := 36) (CJ.and_f (pc1 := 13) (CJ.and_f (pc1 := 7) (CJ.ne0_f (tgt := 35) (pc1 := 4) (JX.getI (pc1 := 1) (c := 11) (k := 7) (i := 54) (JX.al (k := 0) rfl dX11_canPass_0) cl11 (by decide) rfl fk11_54 dX11_canPass_1) dX11_canPass_4 rfl) (CJ.le_f (tgt := 35) (pc1 := 8) (pc2 := 10) (JX.il (k := 1) rfl dX11_canPass_7) (JX.bp (n := 40) kb40 dX11_canPass_8) dX11_canPass_10 rfl)) (CJ.le_f (tgt := 35) (pc1 := 25) (pc2 := 28) (JX.iadd (pc1 := 23) (pc2 := 24) (JX.getI (pc1 := 20) (c := 9) (k := 10) (i := 136) (JX.getR (pc1 := 17) (c := 10) (k := 10) (i := 112) (JX.getR (pc1 := 14) (c := 11) (k := 3) (i := 29) (JX.al (k := 0) rfl dX11_canPass_13) cl11 (by decide) rfl fk11_29 dX11_canPass_14) cl10 (by decide) rfl fk11_112 dX11_canPass_17) cl9 (by decide) rfl fk11_136 dX11_canPass_20) (JX.il (k := 1) rfl dX11_canPass_23) dX11_canPass_24) (JX.sp (n := 999) ks999 dX11_canPass_25) dX11_canPass_28 rfl)) (JX.ic (n := 1) rfl dX11_canPass_31) dX11_canPass_32 rfl (JX.ic (n := 0) rfl dX11_canPass_35) (Or.inl rfl)) dX11_canPass_36)
def mX11_canPass : MS := runM 2 (some (.boolean)) bX11_canPass
theorem aX11_canPass : MA yX11_canPass cX11_canPass 2 (some (.boolean)) 1 mX11_canPass := MA.of (plainFor_of_name (by decide)) jX11_canPass
theorem eX11_canPass (a0 : Nat) (a1 : Int32) (h : AH) : mX11_canPass [.ref a0, .int a1] h = (bX11_canPass [.val (.ref a0), .val (.int a1)] h).bind (finM (some (.boolean))) := rfl
/-! Vault.countLiveBytes -/
theorem dX10_countLiveBytes_0 : decode cX10_countLiveBytes 0 = .ok (.aload_n 0, 1) := by decide +kernel
theorem dX10_countLiveBytes_1 : decode cX10_countLiveBytes 1 = .ok (.iload_n 1, 1) := by decide +kernel
theorem dX10_countLiveBytes_2 : decode cX10_countLiveBytes 2 = .ok (.invokevirtual 195, 3) := by decide +kernel
theorem dX10_countLiveBytes_5 : decode cX10_countLiveBytes 5 = .ok (.aload_n 0, 1) := by decide +kernel
theorem dX10_countLiveBytes_6 : decode cX10_countLiveBytes 6 = .ok (.iconst 0, 1) := by decide +kernel
theorem dX10_countLiveBytes_7 : decode cX10_countLiveBytes 7 = .ok (.aload_n 0, 1) := by decide +kernel
theorem dX10_countLiveBytes_8 : decode cX10_countLiveBytes 8 = .ok (.getfield 64, 3) := by decide +kernel
theorem dX10_countLiveBytes_11 : decode cX10_countLiveBytes 11 = .ok (.getfield 121, 3) := by decide +kernel
theorem dX10_countLiveBytes_14 : decode cX10_countLiveBytes 14 = .ok (.invokevirtual 157, 3) := by decide +kernel
theorem dX10_countLiveBytes_17 : decode cX10_countLiveBytes 17 = .ok (.invokevirtual 201, 3) := by decide +kernel
theorem dX10_countLiveBytes_20 : decode cX10_countLiveBytes 20 = .ok (.ireturn, 1) := by decide +kernel
abbrev MX10_countLiveBytes : MI := (RX10, cX10_countLiveBytes, 2, 5, false)
def bX10_countLiveBytes : St := (seqS (calS (ckV 10 1) mX10_markLive (agC va_rf (lvR 0) (agC Value.int (lvI 1) agN))) (retI (calX decI (ckV 10 2) mX10_liveBytes (agC va_rf (lvR 0) (agC Value.int (ciI (iI 0)) (agC Value.int (calX decI (ckV 5 0) mX5_size (agC va_rf (getR 9 0 (getR 10 10 (lvR 0))) agN)) agN))))))
theorem jX10_countLiveBytes : JS MX10_countLiveBytes 0 0 0 21 [] bX10_countLiveBytes :=
  (JS.seq (pc1 := 5) (JS.call (pc1 := 2) (JA.r (JX.al (k := 0) rfl dX10_countLiveBytes_0) (JA.i (JX.il (k := 1) rfl dX10_countLiveBytes_1) JA.nil)) aX10_markLive (RunK.V (i := 195) (c := 10) (n := 1) cl10 rfl (CN nX10_markLive (by decide) (by decide)) gw784 gw786 gs29 dX10_countLiveBytes_2)) (JS.retI (pc1 := 20) (JX.call (pc1 := 17) decI_ok (JA.r (JX.al (k := 0) rfl dX10_countLiveBytes_5) (JA.i (JX.ic (n := 0) rfl dX10_countLiveBytes_6) (JA.i (JX.call (pc1 := 14) decI_ok (JA.r (JX.getR (pc1 := 11) (c := 9) (k := 0) (i := 121) (JX.getR (pc1 := 8) (c := 10) (k := 10) (i := 64) (JX.al (k := 0) rfl dX10_countLiveBytes_7) cl10 (by decide) rfl fk10_64 dX10_countLiveBytes_8) cl9 (by decide) rfl fk10_121 dX10_countLiveBytes_11) JA.nil) aX5_size (RunK.V (i := 157) (c := 5) (n := 0) cl5 rfl (CN nX5_size (by decide) (by decide)) gw788 gw587 gw588 dX10_countLiveBytes_14) (by decide)) JA.nil))) aX10_liveBytes (RunK.V (i := 201) (c := 10) (n := 2) cl10 rfl (CN nX10_liveBytes (by decide) (by decide)) gw854 gw856 gs32 dX10_countLiveBytes_17) (by decide)) dX10_countLiveBytes_20))
def mX10_countLiveBytes : MS := runM 2 (some (.int)) bX10_countLiveBytes
theorem aX10_countLiveBytes : MA yX10_countLiveBytes cX10_countLiveBytes 2 (some (.int)) 5 mX10_countLiveBytes := MA.of (plainFor_of_name (by decide)) jX10_countLiveBytes
theorem eX10_countLiveBytes (a0 : Nat) (a1 : Int32) (h : AH) : mX10_countLiveBytes [.ref a0, .int a1] h = (bX10_countLiveBytes [.val (.ref a0), .val (.int a1)] h).bind (finM (some (.int))) := rfl
/-! PieceStore.later -/
theorem dX11_later_0 : decode cX11_later 0 = .ok (.iload_n 1, 1) := by decide +kernel
theorem dX11_later_1 : decode cX11_later 1 = .ok (.ifCond .lt 11, 3) := by decide +kernel
theorem dX11_later_4 : decode cX11_later 4 = .ok (.aload_n 0, 1) := by decide +kernel
theorem dX11_later_5 : decode cX11_later 5 = .ok (.iload_n 1, 1) := by decide +kernel
theorem dX11_later_6 : decode cX11_later 6 = .ok (.invokevirtual 243, 3) := by decide +kernel
theorem dX11_later_9 : decode cX11_later 9 = .ok (.ifCond .ne 5, 3) := by decide +kernel
theorem dX11_later_12 : decode cX11_later 12 = .ok (.iconst (-1), 1) := by decide +kernel
theorem dX11_later_13 : decode cX11_later 13 = .ok (.ireturn, 1) := by decide +kernel
theorem dX11_later_14 : decode cX11_later 14 = .ok (.iload_n 2, 1) := by decide +kernel
theorem dX11_later_15 : decode cX11_later 15 = .ok (.tableswitch 52 0 2 #[25, 34, 43], 25) := by decide +kernel
theorem dX11_later_40 : decode cX11_later 40 = .ok (.aload_n 0, 1) := by decide +kernel
theorem dX11_later_41 : decode cX11_later 41 = .ok (.getfield 29, 3) := by decide +kernel
theorem dX11_later_44 : decode cX11_later 44 = .ok (.iload_n 1, 1) := by decide +kernel
theorem dX11_later_45 : decode cX11_later 45 = .ok (.invokevirtual 109, 3) := by decide +kernel
theorem dX11_later_48 : decode cX11_later 48 = .ok (.ireturn, 1) := by decide +kernel
theorem dX11_later_49 : decode cX11_later 49 = .ok (.aload_n 0, 1) := by decide +kernel
theorem dX11_later_50 : decode cX11_later 50 = .ok (.getfield 29, 3) := by decide +kernel
theorem dX11_later_53 : decode cX11_later 53 = .ok (.iload_n 1, 1) := by decide +kernel
theorem dX11_later_54 : decode cX11_later 54 = .ok (.invokevirtual 121, 3) := by decide +kernel
theorem dX11_later_57 : decode cX11_later 57 = .ok (.ireturn, 1) := by decide +kernel
theorem dX11_later_58 : decode cX11_later 58 = .ok (.aload_n 0, 1) := by decide +kernel
theorem dX11_later_59 : decode cX11_later 59 = .ok (.getfield 29, 3) := by decide +kernel
theorem dX11_later_62 : decode cX11_later 62 = .ok (.iload_n 1, 1) := by decide +kernel
theorem dX11_later_63 : decode cX11_later 63 = .ok (.invokevirtual 246, 3) := by decide +kernel
theorem dX11_later_66 : decode cX11_later 66 = .ok (.ireturn, 1) := by decide +kernel
theorem dX11_later_67 : decode cX11_later 67 = .ok (.iconst (-1), 1) := by decide +kernel
theorem dX11_later_68 : decode cX11_later 68 = .ok (.ireturn, 1) := by decide +kernel
abbrev MX11_later : MI := (RX11, cX11_later, 3, 6, false)
def swX11_later_1 (x : Int32) : St := if x = iI 0 then (retI (calX decI (ckV 10 1) mX10_countBackups (agC va_rf (getR 11 3 (lvR 0)) (agC Value.int (lvI 1) agN)))) else if x = iI 1 then (retI (calX decI (ckV 10 1) mX10_countLive (agC va_rf (getR 11 3 (lvR 0)) (agC Value.int (lvI 1) agN)))) else if x = iI 2 then (retI (calX decI (ckV 10 1) mX10_countLiveBytes (agC va_rf (getR 11 3 (lvR 0)) (agC Value.int (lvI 1) agN)))) else (retI (ciI (iI (-1))))
def bX11_later : St := (seqS (ifS (orX (lt0 (lvI 1)) (notX (ne0 (calX decI (ckV 11 1) mX11_canPass (agC va_rf (lvR 0) (agC Value.int (lvI 1) agN)))))) (retI (ciI (iI (-1))))) (swS (lvI 2) swX11_later_1))
theorem swX11_later_1_ok : ∀ x, ∃ tgt pcx, TSw MX11_later.2.1 15 x tgt ∧ JS MX11_later 69 0 tgt pcx [] (swX11_later_1 x) ∧ Dead (swX11_later_1 x) := by
  intro x
  unfold swX11_later_1
  by_cases h0 : x = iI 0
  · subst h0
    rw [if_pos rfl]
    refine ⟨40, 49, ?_, (JS.retI (pc1 := 48) (JX.call (pc1 := 45) decI_ok (JA.r (JX.getR (pc1 := 41) (c := 11) (k := 3) (i := 29) (JX.al (k := 0) rfl dX11_later_40) cl11 (by decide) rfl fk11_29 dX11_later_41) (JA.i (JX.il (k := 1) rfl dX11_later_44) JA.nil)) aX10_countBackups (RunK.V (i := 109) (c := 10) (n := 1) cl10 rfl (CN nX10_countBackups (by decide) (by decide)) gw766 gw767 gw768 dX11_later_45) (by decide)) dX11_later_48), dead_retI⟩
    exact TSw.tab_in (off := 25) dX11_later_15 (by decide) (by decide) rfl rfl
  by_cases h1 : x = iI 1
  · subst h1
    rw [if_neg (by decide)]
    rw [if_pos rfl]
    refine ⟨49, 58, ?_, (JS.retI (pc1 := 57) (JX.call (pc1 := 54) decI_ok (JA.r (JX.getR (pc1 := 50) (c := 11) (k := 3) (i := 29) (JX.al (k := 0) rfl dX11_later_49) cl11 (by decide) rfl fk11_29 dX11_later_50) (JA.i (JX.il (k := 1) rfl dX11_later_53) JA.nil)) aX10_countLive (RunK.V (i := 121) (c := 10) (n := 1) cl10 rfl (CN nX10_countLive (by decide) (by decide)) gw780 gw781 gw782 dX11_later_54) (by decide)) dX11_later_57), dead_retI⟩
    exact TSw.tab_in (off := 34) dX11_later_15 (by decide) (by decide) rfl rfl
  by_cases h2 : x = iI 2
  · subst h2
    rw [if_neg (by decide)]
    rw [if_neg (by decide)]
    rw [if_pos rfl]
    refine ⟨58, 67, ?_, (JS.retI (pc1 := 66) (JX.call (pc1 := 63) decI_ok (JA.r (JX.getR (pc1 := 59) (c := 11) (k := 3) (i := 29) (JX.al (k := 0) rfl dX11_later_58) cl11 (by decide) rfl fk11_29 dX11_later_59) (JA.i (JX.il (k := 1) rfl dX11_later_62) JA.nil)) aX10_countLiveBytes (RunK.V (i := 246) (c := 10) (n := 1) cl10 rfl (CN nX10_countLiveBytes (by decide) (by decide)) gw1034 gw1035 gw1036 dX11_later_63) (by decide)) dX11_later_66), dead_retI⟩
    exact TSw.tab_in (off := 43) dX11_later_15 (by decide) (by decide) rfl rfl
  rw [if_neg h0]
  rw [if_neg h1]
  rw [if_neg h2]
  refine ⟨67, 69, ?_, (JS.retI (pc1 := 68) (JX.ic (n := (-1)) rfl dX11_later_67) dX11_later_68), dead_retI⟩
  exact TSw.tab_out [0, 1, 2] dX11_later_15 (by decide) (by decide) (by simp [h0, h1, h2]) rfl
theorem jX11_later : JS MX11_later 0 0 0 69 [] bX11_later :=
  (JS.seq (pc1 := 14) (JS.iff (l := 14) (pc1 := 12) (CJ.or_f (l := 12) (pc1 := 4) (CJ.lt0_t (tgt := 12) (pc1 := 1) (JX.il (k := 1) rfl dX11_later_0) dX11_later_1 rfl) (CJ.not_f (CJ.ne0_t (tgt := 14) (pc1 := 9) (JX.call (pc1 := 6) decI_ok (JA.r (JX.al (k := 0) rfl dX11_later_4) (JA.i (JX.il (k := 1) rfl dX11_later_5) JA.nil)) aX11_canPass (RunK.V (i := 243) (c := 11) (n := 1) cl11 rfl (CN nX11_canPass (by decide) (by decide)) gw1030 gw1032 gs39 dX11_later_6) (by decide)) dX11_later_9 rfl)) (Or.inl rfl)) (JS.retI (pc1 := 13) (JX.ic (n := (-1)) rfl dX11_later_12) dX11_later_13) (Or.inl rfl)) (JS.sw (lend := 69) (pc1 := 15) (pc2 := 69) (JX.il (k := 2) rfl dX11_later_14) swX11_later_1_ok (Or.inl rfl)))
def mX11_later : MS := runM 3 (some (.int)) bX11_later
theorem aX11_later : MA yX11_later cX11_later 3 (some (.int)) 6 mX11_later := MA.of (plainFor_of_name (by decide)) jX11_later
theorem eX11_later (a0 : Nat) (a1 : Int32) (a2 : Int32) (h : AH) : mX11_later [.ref a0, .int a1, .int a2] h = (bX11_later [.val (.ref a0), .val (.int a1), .val (.int a2)] h).bind (finM (some (.int))) := rfl
/-! PieceStore.expires -/
theorem dX11_expires_0 : decode cX11_expires 0 = .ok (.aload_n 0, 1) := by decide +kernel
theorem dX11_expires_1 : decode cX11_expires 1 = .ok (.getfield 29, 3) := by decide +kernel
theorem dX11_expires_4 : decode cX11_expires 4 = .ok (.iload_n 1, 1) := by decide +kernel
theorem dX11_expires_5 : decode cX11_expires 5 = .ok (.invokevirtual 154, 3) := by decide +kernel
theorem dX11_expires_8 : decode cX11_expires 8 = .ok (.ifCond .ne 5, 3) := by decide +kernel
theorem dX11_expires_11 : decode cX11_expires 11 = .ok (.iconst (-1), 1) := by decide +kernel
theorem dX11_expires_12 : decode cX11_expires 12 = .ok (.ireturn, 1) := by decide +kernel
theorem dX11_expires_13 : decode cX11_expires 13 = .ok (.iconst 1, 1) := by decide +kernel
theorem dX11_expires_14 : decode cX11_expires 14 = .ok (.istore_n 2, 1) := by decide +kernel
theorem dX11_expires_15 : decode cX11_expires 15 = .ok (.iload_n 2, 1) := by decide +kernel
theorem dX11_expires_16 : decode cX11_expires 16 = .ok (.bipush 40, 2) := by decide +kernel
theorem dX11_expires_18 : decode cX11_expires 18 = .ok (.if_icmp .gt 31, 3) := by decide +kernel
theorem dX11_expires_21 : decode cX11_expires 21 = .ok (.aload_n 0, 1) := by decide +kernel
theorem dX11_expires_22 : decode cX11_expires 22 = .ok (.iload_n 2, 1) := by decide +kernel
theorem dX11_expires_23 : decode cX11_expires 23 = .ok (.invokevirtual 243, 3) := by decide +kernel
theorem dX11_expires_26 : decode cX11_expires 26 = .ok (.ifCond .eq 17, 3) := by decide +kernel
theorem dX11_expires_29 : decode cX11_expires 29 = .ok (.aload_n 0, 1) := by decide +kernel
theorem dX11_expires_30 : decode cX11_expires 30 = .ok (.getfield 29, 3) := by decide +kernel
theorem dX11_expires_33 : decode cX11_expires 33 = .ok (.iload_n 1, 1) := by decide +kernel
theorem dX11_expires_34 : decode cX11_expires 34 = .ok (.iload_n 2, 1) := by decide +kernel
theorem dX11_expires_35 : decode cX11_expires 35 = .ok (.invokevirtual 249, 3) := by decide +kernel
theorem dX11_expires_38 : decode cX11_expires 38 = .ok (.ifCond .eq 5, 3) := by decide +kernel
theorem dX11_expires_41 : decode cX11_expires 41 = .ok (.iload_n 2, 1) := by decide +kernel
theorem dX11_expires_42 : decode cX11_expires 42 = .ok (.ireturn, 1) := by decide +kernel
theorem dX11_expires_43 : decode cX11_expires 43 = .ok (.iinc 2 1, 3) := by decide +kernel
theorem dX11_expires_46 : decode cX11_expires 46 = .ok (.goto (-31), 3) := by decide +kernel
theorem dX11_expires_49 : decode cX11_expires 49 = .ok (.iconst (-1), 1) := by decide +kernel
theorem dX11_expires_50 : decode cX11_expires 50 = .ok (.ireturn, 1) := by decide +kernel
abbrev MX11_expires : MI := (RX11, cX11_expires, 3, 4, false)
def lcX11_expires_1 : Ex Bool := (leI (lvI 2) (ciI (iI 40)))
def lbX11_expires_1 : St := (forB (ifS (andX (ne0 (calX decI (ckV 11 1) mX11_canPass (agC va_rf (lvR 0) (agC Value.int (lvI 2) agN)))) (ne0 (calX decI (ckV 10 2) mX10_isGone (agC va_rf (getR 11 3 (lvR 0)) (agC Value.int (lvI 1) (agC Value.int (lvI 2) agN)))))) (retI (lvI 2))) (incI 2 (iI 1)))
def bX11_expires : St := (seqS (ifS (notX (ne0 (calX decI (ckV 10 1) mX10_hasBackup (agC va_rf (getR 11 3 (lvR 0)) (agC Value.int (lvI 1) agN))))) (retI (ciI (iI (-1))))) (seqS (scS 2 (seqS (lsI 2 (ciI (iI 1))) (whileS lcX11_expires_1 lbX11_expires_1))) (retI (ciI (iI (-1))))))
theorem jX11_expires : JS MX11_expires 0 0 0 51 [] bX11_expires :=
  (JS.seq (pc1 := 13) (JS.iff (l := 13) (pc1 := 11) (CJ.not_f (CJ.ne0_t (tgt := 13) (pc1 := 8) (JX.call (pc1 := 5) decI_ok (JA.r (JX.getR (pc1 := 1) (c := 11) (k := 3) (i := 29) (JX.al (k := 0) rfl dX11_expires_0) cl11 (by decide) rfl fk11_29 dX11_expires_1) (JA.i (JX.il (k := 1) rfl dX11_expires_4) JA.nil)) aX10_hasBackup (RunK.V (i := 154) (c := 10) (n := 1) cl10 rfl (CN nX10_hasBackup (by decide) (by decide)) gw808 gw771 gw772 dX11_expires_5) (by decide)) dX11_expires_8 rfl)) (JS.retI (pc1 := 12) (JX.ic (n := (-1)) rfl dX11_expires_11) dX11_expires_12) (Or.inl rfl)) (JS.seq (pc1 := 49) (JS.sc (JS.seq (pc1 := 15) (JS.is (pc1 := 14) (k := 2) (JX.ic (n := 1) rfl dX11_expires_13) rfl (show 2 < 3 by decide) dX11_expires_14) (JS.while (l := 49) (lb := 49) (pc1 := 21) (pc2 := 46) (pc3 := 49) (CJ.le_f (tgt := 49) (pc1 := 16) (pc2 := 18) (JX.il (k := 2) rfl dX11_expires_15) (JX.bp (n := 40) kb40 dX11_expires_16) dX11_expires_18 rfl) (JS.forb (pc1 := 43) (JS.iff (l := 43) (pc1 := 41) (CJ.and_f (pc1 := 29) (CJ.ne0_f (tgt := 43) (pc1 := 26) (JX.call (pc1 := 23) decI_ok (JA.r (JX.al (k := 0) rfl dX11_expires_21) (JA.i (JX.il (k := 2) rfl dX11_expires_22) JA.nil)) aX11_canPass (RunK.V (i := 243) (c := 11) (n := 1) cl11 rfl (CN nX11_canPass (by decide) (by decide)) gw1030 gw1032 gs39 dX11_expires_23) (by decide)) dX11_expires_26 rfl) (CJ.ne0_f (tgt := 43) (pc1 := 38) (JX.call (pc1 := 35) decI_ok (JA.r (JX.getR (pc1 := 30) (c := 11) (k := 3) (i := 29) (JX.al (k := 0) rfl dX11_expires_29) cl11 (by decide) rfl fk11_29 dX11_expires_30) (JA.i (JX.il (k := 1) rfl dX11_expires_33) (JA.i (JX.il (k := 2) rfl dX11_expires_34) JA.nil))) aX10_isGone (RunK.V (i := 249) (c := 10) (n := 2) cl10 rfl (CN nX10_isGone (by decide) (by decide)) gw1042 gw776 gw777 dX11_expires_35) (by decide)) dX11_expires_38 rfl)) (JS.retI (pc1 := 42) (JX.il (k := 2) rfl dX11_expires_41) dX11_expires_42) (Or.inl rfl)) (JS.inc (n := 1) rfl (show 2 < 3 by decide) dX11_expires_43)) dX11_expires_46 rfl (Or.inl rfl) (Or.inl rfl)))) (JS.retI (pc1 := 50) (JX.ic (n := (-1)) rfl dX11_expires_49) dX11_expires_50)))
def mX11_expires : MS := runM 3 (some (.int)) bX11_expires
theorem aX11_expires : MA yX11_expires cX11_expires 3 (some (.int)) 4 mX11_expires := MA.of (plainFor_of_name (by decide)) jX11_expires
theorem eX11_expires (a0 : Nat) (a1 : Int32) (h : AH) : mX11_expires [.ref a0, .int a1] h = (bX11_expires [.val (.ref a0), .val (.int a1), .unset] h).bind (finM (some (.int))) := rfl
/-! Math.max -/
theorem dJ9_max_7cf53_0 : decode cJ9_max_7cf53 0 = .ok (.iload_n 0, 1) := by decide +kernel
theorem dJ9_max_7cf53_1 : decode cJ9_max_7cf53 1 = .ok (.iload_n 1, 1) := by decide +kernel
theorem dJ9_max_7cf53_2 : decode cJ9_max_7cf53 2 = .ok (.if_icmp .lt 7, 3) := by decide +kernel
theorem dJ9_max_7cf53_5 : decode cJ9_max_7cf53 5 = .ok (.iload_n 0, 1) := by decide +kernel
theorem dJ9_max_7cf53_6 : decode cJ9_max_7cf53 6 = .ok (.goto 4, 3) := by decide +kernel
theorem dJ9_max_7cf53_9 : decode cJ9_max_7cf53 9 = .ok (.iload_n 1, 1) := by decide +kernel
theorem dJ9_max_7cf53_10 : decode cJ9_max_7cf53 10 = .ok (.ireturn, 1) := by decide +kernel
abbrev MJ9_max_7cf53 : MI := (RJ9, cJ9_max_7cf53, 2, 1, false)
def bJ9_max_7cf53 : St := (retI (iteX (geI (lvI 0) (lvI 1)) (lvI 0) (lvI 1)))
theorem jJ9_max_7cf53 : JS MJ9_max_7cf53 0 0 0 11 [] bJ9_max_7cf53 :=
  (JS.retI (pc1 := 10) (JX.ite (l := 9) (pc1 := 5) (pc2 := 6) (pc3 := 10) (lend := 10) (CJ.ge_f (tgt := 9) (pc1 := 1) (pc2 := 2) (JX.il (k := 0) rfl dJ9_max_7cf53_0) (JX.il (k := 1) rfl dJ9_max_7cf53_1) dJ9_max_7cf53_2 rfl) (JX.il (k := 0) rfl dJ9_max_7cf53_5) dJ9_max_7cf53_6 rfl (JX.il (k := 1) rfl dJ9_max_7cf53_9) (Or.inl rfl)) dJ9_max_7cf53_10)
def mJ9_max_7cf53 : MS := runM 2 (some (.int)) bJ9_max_7cf53
theorem aJ9_max_7cf53 : MA yJ9_max_7cf53 cJ9_max_7cf53 2 (some (.int)) 1 mJ9_max_7cf53 := MA.of (by decide +kernel) jJ9_max_7cf53
theorem eJ9_max_7cf53 (a0 : Int32) (a1 : Int32) (h : AH) : mJ9_max_7cf53 [.int a0, .int a1] h = (bJ9_max_7cf53 [.val (.int a0), .val (.int a1)] h).bind (finM (some (.int))) := rfl
/-! State.copyRest -/
theorem dX9_copyRest_0 : decode cX9_copyRest 0 = .ok (.aload_n 0, 1) := by decide +kernel
theorem dX9_copyRest_1 : decode cX9_copyRest 1 = .ok (.getfield 36, 3) := by decide +kernel
theorem dX9_copyRest_4 : decode cX9_copyRest 4 = .ok (.aload_n 1, 1) := by decide +kernel
theorem dX9_copyRest_5 : decode cX9_copyRest 5 = .ok (.getfield 36, 3) := by decide +kernel
theorem dX9_copyRest_8 : decode cX9_copyRest 8 = .ok (.invokevirtual 71, 3) := by decide +kernel
theorem dX9_copyRest_11 : decode cX9_copyRest 11 = .ok (.aload_n 0, 1) := by decide +kernel
theorem dX9_copyRest_12 : decode cX9_copyRest 12 = .ok (.getfield 39, 3) := by decide +kernel
theorem dX9_copyRest_15 : decode cX9_copyRest 15 = .ok (.aload_n 1, 1) := by decide +kernel
theorem dX9_copyRest_16 : decode cX9_copyRest 16 = .ok (.getfield 39, 3) := by decide +kernel
theorem dX9_copyRest_19 : decode cX9_copyRest 19 = .ok (.invokevirtual 71, 3) := by decide +kernel
theorem dX9_copyRest_22 : decode cX9_copyRest 22 = .ok (.aload_n 0, 1) := by decide +kernel
theorem dX9_copyRest_23 : decode cX9_copyRest 23 = .ok (.getfield 42, 3) := by decide +kernel
theorem dX9_copyRest_26 : decode cX9_copyRest 26 = .ok (.aload_n 1, 1) := by decide +kernel
theorem dX9_copyRest_27 : decode cX9_copyRest 27 = .ok (.getfield 42, 3) := by decide +kernel
theorem dX9_copyRest_30 : decode cX9_copyRest 30 = .ok (.invokevirtual 71, 3) := by decide +kernel
theorem dX9_copyRest_33 : decode cX9_copyRest 33 = .ok (.aload_n 0, 1) := by decide +kernel
theorem dX9_copyRest_34 : decode cX9_copyRest 34 = .ok (.aload_n 1, 1) := by decide +kernel
theorem dX9_copyRest_35 : decode cX9_copyRest 35 = .ok (.getfield 45, 3) := by decide +kernel
theorem dX9_copyRest_38 : decode cX9_copyRest 38 = .ok (.putfield 45, 3) := by decide +kernel
theorem dX9_copyRest_41 : decode cX9_copyRest 41 = .ok (.aload_n 0, 1) := by decide +kernel
theorem dX9_copyRest_42 : decode cX9_copyRest 42 = .ok (.aload_n 1, 1) := by decide +kernel
theorem dX9_copyRest_43 : decode cX9_copyRest 43 = .ok (.getfield 49, 3) := by decide +kernel
theorem dX9_copyRest_46 : decode cX9_copyRest 46 = .ok (.putfield 49, 3) := by decide +kernel
theorem dX9_copyRest_49 : decode cX9_copyRest 49 = .ok (.aload_n 0, 1) := by decide +kernel
theorem dX9_copyRest_50 : decode cX9_copyRest 50 = .ok (.aload_n 1, 1) := by decide +kernel
theorem dX9_copyRest_51 : decode cX9_copyRest 51 = .ok (.getfield 52, 3) := by decide +kernel
theorem dX9_copyRest_54 : decode cX9_copyRest 54 = .ok (.putfield 52, 3) := by decide +kernel
theorem dX9_copyRest_57 : decode cX9_copyRest 57 = .ok (.aload_n 0, 1) := by decide +kernel
theorem dX9_copyRest_58 : decode cX9_copyRest 58 = .ok (.aload_n 1, 1) := by decide +kernel
theorem dX9_copyRest_59 : decode cX9_copyRest 59 = .ok (.getfield 55, 3) := by decide +kernel
theorem dX9_copyRest_62 : decode cX9_copyRest 62 = .ok (.putfield 55, 3) := by decide +kernel
theorem dX9_copyRest_65 : decode cX9_copyRest 65 = .ok (.aload_n 0, 1) := by decide +kernel
theorem dX9_copyRest_66 : decode cX9_copyRest 66 = .ok (.aload_n 1, 1) := by decide +kernel
theorem dX9_copyRest_67 : decode cX9_copyRest 67 = .ok (.getfield 58, 3) := by decide +kernel
theorem dX9_copyRest_70 : decode cX9_copyRest 70 = .ok (.putfield 58, 3) := by decide +kernel
theorem dX9_copyRest_73 : decode cX9_copyRest 73 = .ok (.return_, 1) := by decide +kernel
abbrev MX9_copyRest : MI := (RX9, cX9_copyRest, 2, 3, false)
def bX9_copyRest : St := (seqS (calS (ckV 5 1) mX5_copyFrom (agC va_rf (getR 9 7 (lvR 0)) (agC va_rf (getR 9 7 (lvR 1)) agN))) (seqS (calS (ckV 5 1) mX5_copyFrom (agC va_rf (getR 9 8 (lvR 0)) (agC va_rf (getR 9 8 (lvR 1)) agN))) (seqS (calS (ckV 5 1) mX5_copyFrom (agC va_rf (getR 9 9 (lvR 0)) (agC va_rf (getR 9 9 (lvR 1)) agN))) (seqS (putI 9 10 (lvR 0) (getI 9 10 (lvR 1))) (seqS (putI 9 11 (lvR 0) (getI 9 11 (lvR 1))) (seqS (putI 9 12 (lvR 0) (getI 9 12 (lvR 1))) (seqS (putI 9 13 (lvR 0) (getI 9 13 (lvR 1))) (seqS (putI 9 14 (lvR 0) (getI 9 14 (lvR 1))) retV))))))))
theorem jX9_copyRest : JS MX9_copyRest 0 0 0 74 [] bX9_copyRest :=
  (JS.seq (pc1 := 11) (JS.call (pc1 := 8) (JA.r (JX.getR (pc1 := 1) (c := 9) (k := 7) (i := 36) (JX.al (k := 0) rfl dX9_copyRest_0) cl9 (by decide) rfl fk9_36 dX9_copyRest_1) (JA.r (JX.getR (pc1 := 5) (c := 9) (k := 7) (i := 36) (JX.al (k := 1) rfl dX9_copyRest_4) cl9 (by decide) rfl fk9_36 dX9_copyRest_5) JA.nil)) aX5_copyFrom (RunK.V (i := 71) (c := 5) (n := 1) cl5 rfl (CN nX5_copyFrom (by decide) (by decide)) gw1056 gw916 gw917 dX9_copyRest_8)) (JS.seq (pc1 := 22) (JS.call (pc1 := 19) (JA.r (JX.getR (pc1 := 12) (c := 9) (k := 8) (i := 39) (JX.al (k := 0) rfl dX9_copyRest_11) cl9 (by decide) rfl fk9_39 dX9_copyRest_12) (JA.r (JX.getR (pc1 := 16) (c := 9) (k := 8) (i := 39) (JX.al (k := 1) rfl dX9_copyRest_15) cl9 (by decide) rfl fk9_39 dX9_copyRest_16) JA.nil)) aX5_copyFrom (RunK.V (i := 71) (c := 5) (n := 1) cl5 rfl (CN nX5_copyFrom (by decide) (by decide)) gw1056 gw916 gw917 dX9_copyRest_19)) (JS.seq (pc1 := 33) (JS.call (pc1 := 30) (JA.r (JX.getR (pc1 := 23) (c := 9) (k := 9) (i := 42) (JX.al (k := 0) rfl dX9_copyRest_22) cl9 (by decide) rfl fk9_42 dX9_copyRest_23) (JA.r (JX.getR (pc1 := 27) (c := 9) (k := 9) (i := 42) (JX.al (k := 1) rfl dX9_copyRest_26) cl9 (by decide) rfl fk9_42 dX9_copyRest_27) JA.nil)) aX5_copyFrom (RunK.V (i := 71) (c := 5) (n := 1) cl5 rfl (CN nX5_copyFrom (by decide) (by decide)) gw1056 gw916 gw917 dX9_copyRest_30)) (JS.seq (pc1 := 41) (JS.pI (pc1 := 34) (pc2 := 38) (c := 9) (k := 10) (i := 45) (JX.al (k := 0) rfl dX9_copyRest_33) (JX.getI (pc1 := 35) (c := 9) (k := 10) (i := 45) (JX.al (k := 1) rfl dX9_copyRest_34) cl9 (by decide) rfl fk9_45 dX9_copyRest_35) cl9 (by decide) rfl fk9_45 (Or.inl rfl) dX9_copyRest_38) (JS.seq (pc1 := 49) (JS.pI (pc1 := 42) (pc2 := 46) (c := 9) (k := 11) (i := 49) (JX.al (k := 0) rfl dX9_copyRest_41) (JX.getI (pc1 := 43) (c := 9) (k := 11) (i := 49) (JX.al (k := 1) rfl dX9_copyRest_42) cl9 (by decide) rfl fk9_49 dX9_copyRest_43) cl9 (by decide) rfl fk9_49 (Or.inl rfl) dX9_copyRest_46) (JS.seq (pc1 := 57) (JS.pI (pc1 := 50) (pc2 := 54) (c := 9) (k := 12) (i := 52) (JX.al (k := 0) rfl dX9_copyRest_49) (JX.getI (pc1 := 51) (c := 9) (k := 12) (i := 52) (JX.al (k := 1) rfl dX9_copyRest_50) cl9 (by decide) rfl fk9_52 dX9_copyRest_51) cl9 (by decide) rfl fk9_52 (Or.inl rfl) dX9_copyRest_54) (JS.seq (pc1 := 65) (JS.pI (pc1 := 58) (pc2 := 62) (c := 9) (k := 13) (i := 55) (JX.al (k := 0) rfl dX9_copyRest_57) (JX.getI (pc1 := 59) (c := 9) (k := 13) (i := 55) (JX.al (k := 1) rfl dX9_copyRest_58) cl9 (by decide) rfl fk9_55 dX9_copyRest_59) cl9 (by decide) rfl fk9_55 (Or.inl rfl) dX9_copyRest_62) (JS.seq (pc1 := 73) (JS.pI (pc1 := 66) (pc2 := 70) (c := 9) (k := 14) (i := 58) (JX.al (k := 0) rfl dX9_copyRest_65) (JX.getI (pc1 := 67) (c := 9) (k := 14) (i := 58) (JX.al (k := 1) rfl dX9_copyRest_66) cl9 (by decide) rfl fk9_58 dX9_copyRest_67) cl9 (by decide) rfl fk9_58 (Or.inl rfl) dX9_copyRest_70) (JS.retV dX9_copyRest_73)))))))))
def mX9_copyRest : MS := runM 2 none bX9_copyRest
theorem aX9_copyRest : MA yX9_copyRest cX9_copyRest 2 none 3 mX9_copyRest := MA.of (plainFor_of_name (by decide)) jX9_copyRest
theorem eX9_copyRest (a0 : Nat) (a1 : Nat) (h : AH) : mX9_copyRest [.ref a0, .ref a1] h = (bX9_copyRest [.val (.ref a0), .val (.ref a1)] h).bind (finM none) := rfl
/-! State.append -/
theorem dX9_append_0 : decode cX9_append 0 = .ok (.aload_n 0, 1) := by decide +kernel
theorem dX9_append_1 : decode cX9_append 1 = .ok (.getfield 30, 3) := by decide +kernel
theorem dX9_append_4 : decode cX9_append 4 = .ok (.invokevirtual 79, 3) := by decide +kernel
theorem dX9_append_7 : decode cX9_append 7 = .ok (.iconst 1, 1) := by decide +kernel
theorem dX9_append_8 : decode cX9_append 8 = .ok (.isub, 1) := by decide +kernel
theorem dX9_append_9 : decode cX9_append 9 = .ok (.istore 4, 2) := by decide +kernel
theorem dX9_append_11 : decode cX9_append 11 = .ok (.aload_n 0, 1) := by decide +kernel
theorem dX9_append_12 : decode cX9_append 12 = .ok (.getfield 12, 3) := by decide +kernel
theorem dX9_append_15 : decode cX9_append 15 = .ok (.iload_n 1, 1) := by decide +kernel
theorem dX9_append_16 : decode cX9_append 16 = .ok (.invokevirtual 87, 3) := by decide +kernel
theorem dX9_append_19 : decode cX9_append 19 = .ok (.aload_n 0, 1) := by decide +kernel
theorem dX9_append_20 : decode cX9_append 20 = .ok (.getfield 18, 3) := by decide +kernel
theorem dX9_append_23 : decode cX9_append 23 = .ok (.iload_n 3, 1) := by decide +kernel
theorem dX9_append_24 : decode cX9_append 24 = .ok (.invokevirtual 87, 3) := by decide +kernel
theorem dX9_append_27 : decode cX9_append 27 = .ok (.aload_n 0, 1) := by decide +kernel
theorem dX9_append_28 : decode cX9_append 28 = .ok (.getfield 21, 3) := by decide +kernel
theorem dX9_append_31 : decode cX9_append 31 = .ok (.iload 4, 2) := by decide +kernel
theorem dX9_append_33 : decode cX9_append 33 = .ok (.invokevirtual 87, 3) := by decide +kernel
theorem dX9_append_36 : decode cX9_append 36 = .ok (.aload_n 0, 1) := by decide +kernel
theorem dX9_append_37 : decode cX9_append 37 = .ok (.getfield 27, 3) := by decide +kernel
theorem dX9_append_40 : decode cX9_append 40 = .ok (.iload 4, 2) := by decide +kernel
theorem dX9_append_42 : decode cX9_append 42 = .ok (.aload_n 0, 1) := by decide +kernel
theorem dX9_append_43 : decode cX9_append 43 = .ok (.getfield 27, 3) := by decide +kernel
theorem dX9_append_46 : decode cX9_append 46 = .ok (.iload 4, 2) := by decide +kernel
theorem dX9_append_48 : decode cX9_append 48 = .ok (.invokevirtual 83, 3) := by decide +kernel
theorem dX9_append_51 : decode cX9_append 51 = .ok (.iload_n 2, 1) := by decide +kernel
theorem dX9_append_52 : decode cX9_append 52 = .ok (.iadd, 1) := by decide +kernel
theorem dX9_append_53 : decode cX9_append 53 = .ok (.invokevirtual 91, 3) := by decide +kernel
theorem dX9_append_56 : decode cX9_append 56 = .ok (.return_, 1) := by decide +kernel
abbrev MX9_append : MI := (RX9, cX9_append, 5, 3, false)
def bX9_append : St := (seqS (lsI 4 (subI (calX decI (ckV 5 0) mX5_size (agC va_rf (getR 9 5 (lvR 0)) agN)) (ciI (iI 1)))) (seqS (calS (ckV 5 1) mX5_add (agC va_rf (getR 9 0 (lvR 0)) (agC Value.int (lvI 1) agN))) (seqS (calS (ckV 5 1) mX5_add (agC va_rf (getR 9 1 (lvR 0)) (agC Value.int (lvI 3) agN))) (seqS (calS (ckV 5 1) mX5_add (agC va_rf (getR 9 2 (lvR 0)) (agC Value.int (lvI 4) agN))) (seqS (calS (ckV 5 2) mX5_put (agC va_rf (getR 9 4 (lvR 0)) (agC Value.int (lvI 4) (agC Value.int (addI (calX decI (ckV 5 1) mX5_at (agC va_rf (getR 9 4 (lvR 0)) (agC Value.int (lvI 4) agN))) (lvI 2)) agN)))) retV)))))
theorem jX9_append : JS MX9_append 0 0 0 57 [] bX9_append :=
  (JS.seq (pc1 := 11) (JS.is2 (pc1 := 9) (JX.isub (pc1 := 7) (pc2 := 8) (JX.call (pc1 := 4) decI_ok (JA.r (JX.getR (pc1 := 1) (c := 9) (k := 5) (i := 30) (JX.al (k := 0) rfl dX9_append_0) cl9 (by decide) rfl fk9_30 dX9_append_1) JA.nil) aX5_size (RunK.V (i := 79) (c := 5) (n := 0) cl5 rfl (CN nX5_size (by decide) (by decide)) gw839 gw587 gw588 dX9_append_4) (by decide)) (JX.ic (n := 1) rfl dX9_append_7) dX9_append_8) (show 4 < 5 by decide) dX9_append_9) (JS.seq (pc1 := 19) (JS.call (pc1 := 16) (JA.r (JX.getR (pc1 := 12) (c := 9) (k := 0) (i := 12) (JX.al (k := 0) rfl dX9_append_11) cl9 (by decide) rfl fk9_12 dX9_append_12) (JA.i (JX.il (k := 1) rfl dX9_append_15) JA.nil)) aX5_add (RunK.V (i := 87) (c := 5) (n := 1) cl5 rfl (CN nX5_add (by decide) (by decide)) gw1066 gw121 gw122 dX9_append_16)) (JS.seq (pc1 := 27) (JS.call (pc1 := 24) (JA.r (JX.getR (pc1 := 20) (c := 9) (k := 1) (i := 18) (JX.al (k := 0) rfl dX9_append_19) cl9 (by decide) rfl fk9_18 dX9_append_20) (JA.i (JX.il (k := 3) rfl dX9_append_23) JA.nil)) aX5_add (RunK.V (i := 87) (c := 5) (n := 1) cl5 rfl (CN nX5_add (by decide) (by decide)) gw1066 gw121 gw122 dX9_append_24)) (JS.seq (pc1 := 36) (JS.call (pc1 := 33) (JA.r (JX.getR (pc1 := 28) (c := 9) (k := 2) (i := 21) (JX.al (k := 0) rfl dX9_append_27) cl9 (by decide) rfl fk9_21 dX9_append_28) (JA.i (JX.il2 dX9_append_31) JA.nil)) aX5_add (RunK.V (i := 87) (c := 5) (n := 1) cl5 rfl (CN nX5_add (by decide) (by decide)) gw1066 gw121 gw122 dX9_append_33)) (JS.seq (pc1 := 56) (JS.call (pc1 := 53) (JA.r (JX.getR (pc1 := 37) (c := 9) (k := 4) (i := 27) (JX.al (k := 0) rfl dX9_append_36) cl9 (by decide) rfl fk9_27 dX9_append_37) (JA.i (JX.il2 dX9_append_40) (JA.i (JX.iadd (pc1 := 51) (pc2 := 52) (JX.call (pc1 := 48) decI_ok (JA.r (JX.getR (pc1 := 43) (c := 9) (k := 4) (i := 27) (JX.al (k := 0) rfl dX9_append_42) cl9 (by decide) rfl fk9_27 dX9_append_43) (JA.i (JX.il2 dX9_append_46) JA.nil)) aX5_at (RunK.V (i := 83) (c := 5) (n := 1) cl5 rfl (CN nX5_at (by decide) (by decide)) gw840 gw595 gw596 dX9_append_48) (by decide)) (JX.il (k := 2) rfl dX9_append_51) dX9_append_52) JA.nil))) aX5_put (RunK.V (i := 91) (c := 5) (n := 2) cl5 rfl (CN nX5_put (by decide) (by decide)) gw1071 gw599 gw600 dX9_append_53)) (JS.retV dX9_append_56))))))
def mX9_append : MS := runM 5 none bX9_append
theorem aX9_append : MA yX9_append cX9_append 5 none 3 mX9_append := MA.of (plainFor_of_name (by decide)) jX9_append
theorem eX9_append (a0 : Nat) (a1 : Int32) (a2 : Int32) (a3 : Int32) (h : AH) : mX9_append [.ref a0, .int a1, .int a2, .int a3] h = (bX9_append [.val (.ref a0), .val (.int a1), .val (.int a2), .val (.int a3), .unset] h).bind (finM none) := rfl
/-! State.openBox -/
theorem dX9_openBox_0 : decode cX9_openBox 0 = .ok (.aload_n 0, 1) := by decide +kernel
theorem dX9_openBox_1 : decode cX9_openBox 1 = .ok (.getfield 24, 3) := by decide +kernel
theorem dX9_openBox_4 : decode cX9_openBox 4 = .ok (.aload_n 0, 1) := by decide +kernel
theorem dX9_openBox_5 : decode cX9_openBox 5 = .ok (.getfield 12, 3) := by decide +kernel
theorem dX9_openBox_8 : decode cX9_openBox 8 = .ok (.invokevirtual 79, 3) := by decide +kernel
theorem dX9_openBox_11 : decode cX9_openBox 11 = .ok (.invokevirtual 87, 3) := by decide +kernel
theorem dX9_openBox_14 : decode cX9_openBox 14 = .ok (.aload_n 0, 1) := by decide +kernel
theorem dX9_openBox_15 : decode cX9_openBox 15 = .ok (.getfield 27, 3) := by decide +kernel
theorem dX9_openBox_18 : decode cX9_openBox 18 = .ok (.iconst 0, 1) := by decide +kernel
theorem dX9_openBox_19 : decode cX9_openBox 19 = .ok (.invokevirtual 87, 3) := by decide +kernel
theorem dX9_openBox_22 : decode cX9_openBox 22 = .ok (.aload_n 0, 1) := by decide +kernel
theorem dX9_openBox_23 : decode cX9_openBox 23 = .ok (.getfield 30, 3) := by decide +kernel
theorem dX9_openBox_26 : decode cX9_openBox 26 = .ok (.iload_n 1, 1) := by decide +kernel
theorem dX9_openBox_27 : decode cX9_openBox 27 = .ok (.invokevirtual 87, 3) := by decide +kernel
theorem dX9_openBox_30 : decode cX9_openBox 30 = .ok (.aload_n 0, 1) := by decide +kernel
theorem dX9_openBox_31 : decode cX9_openBox 31 = .ok (.getfield 33, 3) := by decide +kernel
theorem dX9_openBox_34 : decode cX9_openBox 34 = .ok (.iload_n 2, 1) := by decide +kernel
theorem dX9_openBox_35 : decode cX9_openBox 35 = .ok (.invokevirtual 87, 3) := by decide +kernel
theorem dX9_openBox_38 : decode cX9_openBox 38 = .ok (.return_, 1) := by decide +kernel
abbrev MX9_openBox : MI := (RX9, cX9_openBox, 3, 3, false)
def bX9_openBox : St := (seqS (calS (ckV 5 1) mX5_add (agC va_rf (getR 9 3 (lvR 0)) (agC Value.int (calX decI (ckV 5 0) mX5_size (agC va_rf (getR 9 0 (lvR 0)) agN)) agN))) (seqS (calS (ckV 5 1) mX5_add (agC va_rf (getR 9 4 (lvR 0)) (agC Value.int (ciI (iI 0)) agN))) (seqS (calS (ckV 5 1) mX5_add (agC va_rf (getR 9 5 (lvR 0)) (agC Value.int (lvI 1) agN))) (seqS (calS (ckV 5 1) mX5_add (agC va_rf (getR 9 6 (lvR 0)) (agC Value.int (lvI 2) agN))) retV))))
theorem jX9_openBox : JS MX9_openBox 0 0 0 39 [] bX9_openBox :=
  (JS.seq (pc1 := 14) (JS.call (pc1 := 11) (JA.r (JX.getR (pc1 := 1) (c := 9) (k := 3) (i := 24) (JX.al (k := 0) rfl dX9_openBox_0) cl9 (by decide) rfl fk9_24 dX9_openBox_1) (JA.i (JX.call (pc1 := 8) decI_ok (JA.r (JX.getR (pc1 := 5) (c := 9) (k := 0) (i := 12) (JX.al (k := 0) rfl dX9_openBox_4) cl9 (by decide) rfl fk9_12 dX9_openBox_5) JA.nil) aX5_size (RunK.V (i := 79) (c := 5) (n := 0) cl5 rfl (CN nX5_size (by decide) (by decide)) gw839 gw587 gw588 dX9_openBox_8) (by decide)) JA.nil)) aX5_add (RunK.V (i := 87) (c := 5) (n := 1) cl5 rfl (CN nX5_add (by decide) (by decide)) gw1066 gw121 gw122 dX9_openBox_11)) (JS.seq (pc1 := 22) (JS.call (pc1 := 19) (JA.r (JX.getR (pc1 := 15) (c := 9) (k := 4) (i := 27) (JX.al (k := 0) rfl dX9_openBox_14) cl9 (by decide) rfl fk9_27 dX9_openBox_15) (JA.i (JX.ic (n := 0) rfl dX9_openBox_18) JA.nil)) aX5_add (RunK.V (i := 87) (c := 5) (n := 1) cl5 rfl (CN nX5_add (by decide) (by decide)) gw1066 gw121 gw122 dX9_openBox_19)) (JS.seq (pc1 := 30) (JS.call (pc1 := 27) (JA.r (JX.getR (pc1 := 23) (c := 9) (k := 5) (i := 30) (JX.al (k := 0) rfl dX9_openBox_22) cl9 (by decide) rfl fk9_30 dX9_openBox_23) (JA.i (JX.il (k := 1) rfl dX9_openBox_26) JA.nil)) aX5_add (RunK.V (i := 87) (c := 5) (n := 1) cl5 rfl (CN nX5_add (by decide) (by decide)) gw1066 gw121 gw122 dX9_openBox_27)) (JS.seq (pc1 := 38) (JS.call (pc1 := 35) (JA.r (JX.getR (pc1 := 31) (c := 9) (k := 6) (i := 33) (JX.al (k := 0) rfl dX9_openBox_30) cl9 (by decide) rfl fk9_33 dX9_openBox_31) (JA.i (JX.il (k := 2) rfl dX9_openBox_34) JA.nil)) aX5_add (RunK.V (i := 87) (c := 5) (n := 1) cl5 rfl (CN nX5_add (by decide) (by decide)) gw1066 gw121 gw122 dX9_openBox_35)) (JS.retV dX9_openBox_38)))))
def mX9_openBox : MS := runM 3 none bX9_openBox
theorem aX9_openBox : MA yX9_openBox cX9_openBox 3 none 3 mX9_openBox := MA.of (plainFor_of_name (by decide)) jX9_openBox
theorem eX9_openBox (a0 : Nat) (a1 : Int32) (a2 : Int32) (h : AH) : mX9_openBox [.ref a0, .int a1, .int a2] h = (bX9_openBox [.val (.ref a0), .val (.int a1), .val (.int a2)] h).bind (finM none) := rfl
/-! Vault.copyBox -/
theorem dX10_copyBox_0 : decode cX10_copyBox 0 = .ok (.aload_n 2, 1) := by decide +kernel
theorem dX10_copyBox_1 : decode cX10_copyBox 1 = .ok (.aload_n 0, 1) := by decide +kernel
theorem dX10_copyBox_2 : decode cX10_copyBox 2 = .ok (.getfield 64, 3) := by decide +kernel
theorem dX10_copyBox_5 : decode cX10_copyBox 5 = .ok (.getfield 219, 3) := by decide +kernel
theorem dX10_copyBox_8 : decode cX10_copyBox 8 = .ok (.iload_n 1, 1) := by decide +kernel
theorem dX10_copyBox_9 : decode cX10_copyBox 9 = .ok (.invokevirtual 114, 3) := by decide +kernel
theorem dX10_copyBox_12 : decode cX10_copyBox 12 = .ok (.aload_n 0, 1) := by decide +kernel
theorem dX10_copyBox_13 : decode cX10_copyBox 13 = .ok (.getfield 64, 3) := by decide +kernel
theorem dX10_copyBox_16 : decode cX10_copyBox 16 = .ok (.getfield 213, 3) := by decide +kernel
theorem dX10_copyBox_19 : decode cX10_copyBox 19 = .ok (.iload_n 1, 1) := by decide +kernel
theorem dX10_copyBox_20 : decode cX10_copyBox 20 = .ok (.invokevirtual 114, 3) := by decide +kernel
theorem dX10_copyBox_23 : decode cX10_copyBox 23 = .ok (.invokevirtual 311, 3) := by decide +kernel
theorem dX10_copyBox_26 : decode cX10_copyBox 26 = .ok (.aload_n 0, 1) := by decide +kernel
theorem dX10_copyBox_27 : decode cX10_copyBox 27 = .ok (.getfield 64, 3) := by decide +kernel
theorem dX10_copyBox_30 : decode cX10_copyBox 30 = .ok (.getfield 204, 3) := by decide +kernel
theorem dX10_copyBox_33 : decode cX10_copyBox 33 = .ok (.iload_n 1, 1) := by decide +kernel
theorem dX10_copyBox_34 : decode cX10_copyBox 34 = .ok (.invokevirtual 114, 3) := by decide +kernel
theorem dX10_copyBox_37 : decode cX10_copyBox 37 = .ok (.istore_n 3, 1) := by decide +kernel
theorem dX10_copyBox_38 : decode cX10_copyBox 38 = .ok (.iload_n 3, 1) := by decide +kernel
theorem dX10_copyBox_39 : decode cX10_copyBox 39 = .ok (.aload_n 0, 1) := by decide +kernel
theorem dX10_copyBox_40 : decode cX10_copyBox 40 = .ok (.getfield 64, 3) := by decide +kernel
theorem dX10_copyBox_43 : decode cX10_copyBox 43 = .ok (.iload_n 1, 1) := by decide +kernel
theorem dX10_copyBox_44 : decode cX10_copyBox 44 = .ok (.invokevirtual 207, 3) := by decide +kernel
theorem dX10_copyBox_47 : decode cX10_copyBox 47 = .ok (.if_icmp .ge 40, 3) := by decide +kernel
theorem dX10_copyBox_50 : decode cX10_copyBox 50 = .ok (.aload_n 2, 1) := by decide +kernel
theorem dX10_copyBox_51 : decode cX10_copyBox 51 = .ok (.aload_n 0, 1) := by decide +kernel
theorem dX10_copyBox_52 : decode cX10_copyBox 52 = .ok (.getfield 64, 3) := by decide +kernel
theorem dX10_copyBox_55 : decode cX10_copyBox 55 = .ok (.getfield 121, 3) := by decide +kernel
theorem dX10_copyBox_58 : decode cX10_copyBox 58 = .ok (.iload_n 3, 1) := by decide +kernel
theorem dX10_copyBox_59 : decode cX10_copyBox 59 = .ok (.invokevirtual 114, 3) := by decide +kernel
theorem dX10_copyBox_62 : decode cX10_copyBox 62 = .ok (.aload_n 0, 1) := by decide +kernel
theorem dX10_copyBox_63 : decode cX10_copyBox 63 = .ok (.iload_n 3, 1) := by decide +kernel
theorem dX10_copyBox_64 : decode cX10_copyBox 64 = .ok (.invokevirtual 137, 3) := by decide +kernel
theorem dX10_copyBox_67 : decode cX10_copyBox 67 = .ok (.aload_n 0, 1) := by decide +kernel
theorem dX10_copyBox_68 : decode cX10_copyBox 68 = .ok (.getfield 64, 3) := by decide +kernel
theorem dX10_copyBox_71 : decode cX10_copyBox 71 = .ok (.getfield 210, 3) := by decide +kernel
theorem dX10_copyBox_74 : decode cX10_copyBox 74 = .ok (.iload_n 3, 1) := by decide +kernel
theorem dX10_copyBox_75 : decode cX10_copyBox 75 = .ok (.invokevirtual 114, 3) := by decide +kernel
theorem dX10_copyBox_78 : decode cX10_copyBox 78 = .ok (.invokevirtual 314, 3) := by decide +kernel
theorem dX10_copyBox_81 : decode cX10_copyBox 81 = .ok (.iinc 3 1, 3) := by decide +kernel
theorem dX10_copyBox_84 : decode cX10_copyBox 84 = .ok (.goto (-46), 3) := by decide +kernel
theorem dX10_copyBox_87 : decode cX10_copyBox 87 = .ok (.return_, 1) := by decide +kernel
abbrev MX10_copyBox : MI := (RX10, cX10_copyBox, 4, 4, false)
def lcX10_copyBox_1 : Ex Bool := (ltI (lvI 3) (calX decI (ckV 9 1) mX9_boxEnd (agC va_rf (getR 10 10 (lvR 0)) (agC Value.int (lvI 1) agN))))
def lbX10_copyBox_1 : St := (forB (calS (ckV 9 3) mX9_append (agC va_rf (lvR 2) (agC Value.int (calX decI (ckV 5 1) mX5_at (agC va_rf (getR 9 0 (getR 10 10 (lvR 0))) (agC Value.int (lvI 3) agN))) (agC Value.int (calX decI (ckV 10 1) mX10_lengthAt (agC va_rf (lvR 0) (agC Value.int (lvI 3) agN))) (agC Value.int (calX decI (ckV 5 1) mX5_at (agC va_rf (getR 9 1 (getR 10 10 (lvR 0))) (agC Value.int (lvI 3) agN))) agN))))) (incI 3 (iI 1)))
def bX10_copyBox : St := (seqS (calS (ckV 9 2) mX9_openBox (agC va_rf (lvR 2) (agC Value.int (calX decI (ckV 5 1) mX5_at (agC va_rf (getR 9 5 (getR 10 10 (lvR 0))) (agC Value.int (lvI 1) agN))) (agC Value.int (calX decI (ckV 5 1) mX5_at (agC va_rf (getR 9 6 (getR 10 10 (lvR 0))) (agC Value.int (lvI 1) agN))) agN)))) (seqS (scS 3 (seqS (lsI 3 (calX decI (ckV 5 1) mX5_at (agC va_rf (getR 9 3 (getR 10 10 (lvR 0))) (agC Value.int (lvI 1) agN)))) (whileS lcX10_copyBox_1 lbX10_copyBox_1))) retV))
theorem jX10_copyBox : JS MX10_copyBox 0 0 0 88 [] bX10_copyBox :=
  (JS.seq (pc1 := 26) (JS.call (pc1 := 23) (JA.r (JX.al (k := 2) rfl dX10_copyBox_0) (JA.i (JX.call (pc1 := 9) decI_ok (JA.r (JX.getR (pc1 := 5) (c := 9) (k := 5) (i := 219) (JX.getR (pc1 := 2) (c := 10) (k := 10) (i := 64) (JX.al (k := 0) rfl dX10_copyBox_1) cl10 (by decide) rfl fk10_64 dX10_copyBox_2) cl9 (by decide) rfl fk10_219 dX10_copyBox_5) (JA.i (JX.il (k := 1) rfl dX10_copyBox_8) JA.nil)) aX5_at (RunK.V (i := 114) (c := 5) (n := 1) cl5 rfl (CN nX5_at (by decide) (by decide)) gw774 gw595 gw596 dX10_copyBox_9) (by decide)) (JA.i (JX.call (pc1 := 20) decI_ok (JA.r (JX.getR (pc1 := 16) (c := 9) (k := 6) (i := 213) (JX.getR (pc1 := 13) (c := 10) (k := 10) (i := 64) (JX.al (k := 0) rfl dX10_copyBox_12) cl10 (by decide) rfl fk10_64 dX10_copyBox_13) cl9 (by decide) rfl fk10_213 dX10_copyBox_16) (JA.i (JX.il (k := 1) rfl dX10_copyBox_19) JA.nil)) aX5_at (RunK.V (i := 114) (c := 5) (n := 1) cl5 rfl (CN nX5_at (by decide) (by decide)) gw774 gw595 gw596 dX10_copyBox_20) (by decide)) JA.nil))) aX9_openBox (RunK.V (i := 311) (c := 9) (n := 2) cl9 rfl (CN nX9_openBox (by decide) (by decide)) gw1062 gw1063 gw1064 dX10_copyBox_23)) (JS.seq (pc1 := 87) (JS.sc (JS.seq (pc1 := 38) (JS.is (pc1 := 37) (k := 3) (JX.call (pc1 := 34) decI_ok (JA.r (JX.getR (pc1 := 30) (c := 9) (k := 3) (i := 204) (JX.getR (pc1 := 27) (c := 10) (k := 10) (i := 64) (JX.al (k := 0) rfl dX10_copyBox_26) cl10 (by decide) rfl fk10_64 dX10_copyBox_27) cl9 (by decide) rfl fk10_204 dX10_copyBox_30) (JA.i (JX.il (k := 1) rfl dX10_copyBox_33) JA.nil)) aX5_at (RunK.V (i := 114) (c := 5) (n := 1) cl5 rfl (CN nX5_at (by decide) (by decide)) gw774 gw595 gw596 dX10_copyBox_34) (by decide)) rfl (show 3 < 4 by decide) dX10_copyBox_37) (JS.while (l := 87) (lb := 87) (pc1 := 50) (pc2 := 84) (pc3 := 87) (CJ.lt_f (tgt := 87) (pc1 := 39) (pc2 := 47) (JX.il (k := 3) rfl dX10_copyBox_38) (JX.call (pc1 := 44) decI_ok (JA.r (JX.getR (pc1 := 40) (c := 10) (k := 10) (i := 64) (JX.al (k := 0) rfl dX10_copyBox_39) cl10 (by decide) rfl fk10_64 dX10_copyBox_40) (JA.i (JX.il (k := 1) rfl dX10_copyBox_43) JA.nil)) aX9_boxEnd (RunK.V (i := 207) (c := 9) (n := 1) cl9 rfl (CN nX9_boxEnd (by decide) (by decide)) gw845 gw836 gw837 dX10_copyBox_44) (by decide)) dX10_copyBox_47 rfl) (JS.forb (pc1 := 81) (JS.call (pc1 := 78) (JA.r (JX.al (k := 2) rfl dX10_copyBox_50) (JA.i (JX.call (pc1 := 59) decI_ok (JA.r (JX.getR (pc1 := 55) (c := 9) (k := 0) (i := 121) (JX.getR (pc1 := 52) (c := 10) (k := 10) (i := 64) (JX.al (k := 0) rfl dX10_copyBox_51) cl10 (by decide) rfl fk10_64 dX10_copyBox_52) cl9 (by decide) rfl fk10_121 dX10_copyBox_55) (JA.i (JX.il (k := 3) rfl dX10_copyBox_58) JA.nil)) aX5_at (RunK.V (i := 114) (c := 5) (n := 1) cl5 rfl (CN nX5_at (by decide) (by decide)) gw774 gw595 gw596 dX10_copyBox_59) (by decide)) (JA.i (JX.call (pc1 := 64) decI_ok (JA.r (JX.al (k := 0) rfl dX10_copyBox_62) (JA.i (JX.il (k := 3) rfl dX10_copyBox_63) JA.nil)) aX10_lengthAt (RunK.V (i := 137) (c := 10) (n := 1) cl10 rfl (CN nX10_lengthAt (by decide) (by decide)) gw813 gw814 gw815 dX10_copyBox_64) (by decide)) (JA.i (JX.call (pc1 := 75) decI_ok (JA.r (JX.getR (pc1 := 71) (c := 9) (k := 1) (i := 210) (JX.getR (pc1 := 68) (c := 10) (k := 10) (i := 64) (JX.al (k := 0) rfl dX10_copyBox_67) cl10 (by decide) rfl fk10_64 dX10_copyBox_68) cl9 (by decide) rfl fk10_210 dX10_copyBox_71) (JA.i (JX.il (k := 3) rfl dX10_copyBox_74) JA.nil)) aX5_at (RunK.V (i := 114) (c := 5) (n := 1) cl5 rfl (CN nX5_at (by decide) (by decide)) gw774 gw595 gw596 dX10_copyBox_75) (by decide)) JA.nil)))) aX9_append (RunK.V (i := 314) (c := 9) (n := 3) cl9 rfl (CN nX9_append (by decide) (by decide)) gw1067 gw1068 gw1069 dX10_copyBox_78)) (JS.inc (n := 1) rfl (show 3 < 4 by decide) dX10_copyBox_81)) dX10_copyBox_84 rfl (Or.inl rfl) (Or.inl rfl)))) (JS.retV dX10_copyBox_87)))
def mX10_copyBox : MS := runM 4 none bX10_copyBox
theorem aX10_copyBox : MA yX10_copyBox cX10_copyBox 4 none 4 mX10_copyBox := MA.of (plainFor_of_name (by decide)) jX10_copyBox
theorem eX10_copyBox (a0 : Nat) (a1 : Int32) (a2 : Nat) (h : AH) : mX10_copyBox [.ref a0, .int a1, .ref a2] h = (bX10_copyBox [.val (.ref a0), .val (.int a1), .val (.ref a2), .unset] h).bind (finM none) := rfl
/-! State.write -/
theorem dX9_write_0 : decode cX9_write 0 = .ok (.aload_n 0, 1) := by decide +kernel
theorem dX9_write_1 : decode cX9_write 1 = .ok (.getfield 30, 3) := by decide +kernel
theorem dX9_write_4 : decode cX9_write 4 = .ok (.invokevirtual 79, 3) := by decide +kernel
theorem dX9_write_7 : decode cX9_write 7 = .ok (.iconst 1, 1) := by decide +kernel
theorem dX9_write_8 : decode cX9_write 8 = .ok (.isub, 1) := by decide +kernel
theorem dX9_write_9 : decode cX9_write 9 = .ok (.istore 5, 2) := by decide +kernel
theorem dX9_write_11 : decode cX9_write 11 = .ok (.iload 5, 2) := by decide +kernel
theorem dX9_write_13 : decode cX9_write 13 = .ok (.ifCond .lt 19, 3) := by decide +kernel
theorem dX9_write_16 : decode cX9_write 16 = .ok (.aload_n 0, 1) := by decide +kernel
theorem dX9_write_17 : decode cX9_write 17 = .ok (.getfield 27, 3) := by decide +kernel
theorem dX9_write_20 : decode cX9_write 20 = .ok (.iload 5, 2) := by decide +kernel
theorem dX9_write_22 : decode cX9_write 22 = .ok (.invokevirtual 83, 3) := by decide +kernel
theorem dX9_write_25 : decode cX9_write 25 = .ok (.iload_n 2, 1) := by decide +kernel
theorem dX9_write_26 : decode cX9_write 26 = .ok (.iadd, 1) := by decide +kernel
theorem dX9_write_27 : decode cX9_write 27 = .ok (.iload 4, 2) := by decide +kernel
theorem dX9_write_29 : decode cX9_write 29 = .ok (.if_icmp .le 12, 3) := by decide +kernel
theorem dX9_write_32 : decode cX9_write 32 = .ok (.aload_n 0, 1) := by decide +kernel
theorem dX9_write_33 : decode cX9_write 33 = .ok (.aload_n 0, 1) := by decide +kernel
theorem dX9_write_34 : decode cX9_write 34 = .ok (.getfield 45, 3) := by decide +kernel
theorem dX9_write_37 : decode cX9_write 37 = .ok (.iconst 0, 1) := by decide +kernel
theorem dX9_write_38 : decode cX9_write 38 = .ok (.invokevirtual 94, 3) := by decide +kernel
theorem dX9_write_41 : decode cX9_write 41 = .ok (.aload_n 0, 1) := by decide +kernel
theorem dX9_write_42 : decode cX9_write 42 = .ok (.iload_n 1, 1) := by decide +kernel
theorem dX9_write_43 : decode cX9_write 43 = .ok (.iload_n 2, 1) := by decide +kernel
theorem dX9_write_44 : decode cX9_write 44 = .ok (.iload_n 3, 1) := by decide +kernel
theorem dX9_write_45 : decode cX9_write 45 = .ok (.invokevirtual 97, 3) := by decide +kernel
theorem dX9_write_48 : decode cX9_write 48 = .ok (.return_, 1) := by decide +kernel
abbrev MX9_write : MI := (RX9, cX9_write, 6, 4, false)
def bX9_write : St := (seqS (lsI 5 (subI (calX decI (ckV 5 0) mX5_size (agC va_rf (getR 9 5 (lvR 0)) agN)) (ciI (iI 1)))) (seqS (ifS (orX (lt0 (lvI 5)) (gtI (addI (calX decI (ckV 5 1) mX5_at (agC va_rf (getR 9 4 (lvR 0)) (agC Value.int (lvI 5) agN))) (lvI 2)) (lvI 4))) (calS (ckV 9 2) mX9_openBox (agC va_rf (lvR 0) (agC Value.int (getI 9 10 (lvR 0)) (agC Value.int (ciI (iI 0)) agN))))) (seqS (calS (ckV 9 3) mX9_append (agC va_rf (lvR 0) (agC Value.int (lvI 1) (agC Value.int (lvI 2) (agC Value.int (lvI 3) agN))))) retV)))
theorem jX9_write : JS MX9_write 0 0 0 49 [] bX9_write :=
  (JS.seq (pc1 := 11) (JS.is2 (pc1 := 9) (JX.isub (pc1 := 7) (pc2 := 8) (JX.call (pc1 := 4) decI_ok (JA.r (JX.getR (pc1 := 1) (c := 9) (k := 5) (i := 30) (JX.al (k := 0) rfl dX9_write_0) cl9 (by decide) rfl fk9_30 dX9_write_1) JA.nil) aX5_size (RunK.V (i := 79) (c := 5) (n := 0) cl5 rfl (CN nX5_size (by decide) (by decide)) gw839 gw587 gw588 dX9_write_4) (by decide)) (JX.ic (n := 1) rfl dX9_write_7) dX9_write_8) (show 5 < 6 by decide) dX9_write_9) (JS.seq (pc1 := 41) (JS.iff (l := 41) (pc1 := 32) (CJ.or_f (l := 32) (pc1 := 16) (CJ.lt0_t (tgt := 32) (pc1 := 13) (JX.il2 dX9_write_11) dX9_write_13 rfl) (CJ.gt_f (tgt := 41) (pc1 := 27) (pc2 := 29) (JX.iadd (pc1 := 25) (pc2 := 26) (JX.call (pc1 := 22) decI_ok (JA.r (JX.getR (pc1 := 17) (c := 9) (k := 4) (i := 27) (JX.al (k := 0) rfl dX9_write_16) cl9 (by decide) rfl fk9_27 dX9_write_17) (JA.i (JX.il2 dX9_write_20) JA.nil)) aX5_at (RunK.V (i := 83) (c := 5) (n := 1) cl5 rfl (CN nX5_at (by decide) (by decide)) gw840 gw595 gw596 dX9_write_22) (by decide)) (JX.il (k := 2) rfl dX9_write_25) dX9_write_26) (JX.il2 dX9_write_27) dX9_write_29 rfl) (Or.inl rfl)) (JS.call (pc1 := 38) (JA.r (JX.al (k := 0) rfl dX9_write_32) (JA.i (JX.getI (pc1 := 34) (c := 9) (k := 10) (i := 45) (JX.al (k := 0) rfl dX9_write_33) cl9 (by decide) rfl fk9_45 dX9_write_34) (JA.i (JX.ic (n := 0) rfl dX9_write_37) JA.nil))) aX9_openBox (RunK.V (i := 94) (c := 9) (n := 2) cl9 rfl (CN nX9_openBox (by decide) (by decide)) gw1080 gw1063 gw1064 dX9_write_38)) (Or.inl rfl)) (JS.seq (pc1 := 48) (JS.call (pc1 := 45) (JA.r (JX.al (k := 0) rfl dX9_write_41) (JA.i (JX.il (k := 1) rfl dX9_write_42) (JA.i (JX.il (k := 2) rfl dX9_write_43) (JA.i (JX.il (k := 3) rfl dX9_write_44) JA.nil)))) aX9_append (RunK.V (i := 97) (c := 9) (n := 3) cl9 rfl (CN nX9_append (by decide) (by decide)) gw1081 gw1068 gw1069 dX9_write_45)) (JS.retV dX9_write_48))))
def mX9_write : MS := runM 6 none bX9_write
theorem aX9_write : MA yX9_write cX9_write 6 none 4 mX9_write := MA.of (plainFor_of_name (by decide)) jX9_write
theorem eX9_write (a0 : Nat) (a1 : Int32) (a2 : Int32) (a3 : Int32) (a4 : Int32) (h : AH) : mX9_write [.ref a0, .int a1, .int a2, .int a3, .int a4] h = (bX9_write [.val (.ref a0), .val (.int a1), .val (.int a2), .val (.int a3), .val (.int a4), .unset] h).bind (finM none) := rfl
/-! Vault.moveLive -/
theorem dX10_moveLive_0 : decode cX10_moveLive 0 = .ok (.aload_n 0, 1) := by decide +kernel
theorem dX10_moveLive_1 : decode cX10_moveLive 1 = .ok (.getfield 64, 3) := by decide +kernel
theorem dX10_moveLive_4 : decode cX10_moveLive 4 = .ok (.getfield 204, 3) := by decide +kernel
theorem dX10_moveLive_7 : decode cX10_moveLive 7 = .ok (.iload_n 1, 1) := by decide +kernel
theorem dX10_moveLive_8 : decode cX10_moveLive 8 = .ok (.invokevirtual 114, 3) := by decide +kernel
theorem dX10_moveLive_11 : decode cX10_moveLive 11 = .ok (.istore_n 3, 1) := by decide +kernel
theorem dX10_moveLive_12 : decode cX10_moveLive 12 = .ok (.iload_n 3, 1) := by decide +kernel
theorem dX10_moveLive_13 : decode cX10_moveLive 13 = .ok (.aload_n 0, 1) := by decide +kernel
theorem dX10_moveLive_14 : decode cX10_moveLive 14 = .ok (.getfield 64, 3) := by decide +kernel
theorem dX10_moveLive_17 : decode cX10_moveLive 17 = .ok (.iload_n 1, 1) := by decide +kernel
theorem dX10_moveLive_18 : decode cX10_moveLive 18 = .ok (.invokevirtual 207, 3) := by decide +kernel
theorem dX10_moveLive_21 : decode cX10_moveLive 21 = .ok (.if_icmp .ge 60, 3) := by decide +kernel
theorem dX10_moveLive_24 : decode cX10_moveLive 24 = .ok (.aload_n 0, 1) := by decide +kernel
theorem dX10_moveLive_25 : decode cX10_moveLive 25 = .ok (.getfield 55, 3) := by decide +kernel
theorem dX10_moveLive_28 : decode cX10_moveLive 28 = .ok (.iload_n 3, 1) := by decide +kernel
theorem dX10_moveLive_29 : decode cX10_moveLive 29 = .ok (.invokevirtual 114, 3) := by decide +kernel
theorem dX10_moveLive_32 : decode cX10_moveLive 32 = .ok (.iconst 1, 1) := by decide +kernel
theorem dX10_moveLive_33 : decode cX10_moveLive 33 = .ok (.if_icmp .ne 42, 3) := by decide +kernel
theorem dX10_moveLive_36 : decode cX10_moveLive 36 = .ok (.aload_n 2, 1) := by decide +kernel
theorem dX10_moveLive_37 : decode cX10_moveLive 37 = .ok (.aload_n 0, 1) := by decide +kernel
theorem dX10_moveLive_38 : decode cX10_moveLive 38 = .ok (.getfield 64, 3) := by decide +kernel
theorem dX10_moveLive_41 : decode cX10_moveLive 41 = .ok (.getfield 121, 3) := by decide +kernel
theorem dX10_moveLive_44 : decode cX10_moveLive 44 = .ok (.iload_n 3, 1) := by decide +kernel
theorem dX10_moveLive_45 : decode cX10_moveLive 45 = .ok (.invokevirtual 114, 3) := by decide +kernel
theorem dX10_moveLive_48 : decode cX10_moveLive 48 = .ok (.aload_n 0, 1) := by decide +kernel
theorem dX10_moveLive_49 : decode cX10_moveLive 49 = .ok (.iload_n 3, 1) := by decide +kernel
theorem dX10_moveLive_50 : decode cX10_moveLive 50 = .ok (.invokevirtual 137, 3) := by decide +kernel
theorem dX10_moveLive_53 : decode cX10_moveLive 53 = .ok (.aload_n 0, 1) := by decide +kernel
theorem dX10_moveLive_54 : decode cX10_moveLive 54 = .ok (.getfield 64, 3) := by decide +kernel
theorem dX10_moveLive_57 : decode cX10_moveLive 57 = .ok (.getfield 210, 3) := by decide +kernel
theorem dX10_moveLive_60 : decode cX10_moveLive 60 = .ok (.iload_n 3, 1) := by decide +kernel
theorem dX10_moveLive_61 : decode cX10_moveLive 61 = .ok (.invokevirtual 114, 3) := by decide +kernel
theorem dX10_moveLive_64 : decode cX10_moveLive 64 = .ok (.aload_n 0, 1) := by decide +kernel
theorem dX10_moveLive_65 : decode cX10_moveLive 65 = .ok (.getfield 12, 3) := by decide +kernel
theorem dX10_moveLive_68 : decode cX10_moveLive 68 = .ok (.iconst 0, 1) := by decide +kernel
theorem dX10_moveLive_69 : decode cX10_moveLive 69 = .ok (.invokevirtual 147, 3) := by decide +kernel
theorem dX10_moveLive_72 : decode cX10_moveLive 72 = .ok (.invokevirtual 272, 3) := by decide +kernel
theorem dX10_moveLive_75 : decode cX10_moveLive 75 = .ok (.iinc 3 1, 3) := by decide +kernel
theorem dX10_moveLive_78 : decode cX10_moveLive 78 = .ok (.goto (-66), 3) := by decide +kernel
theorem dX10_moveLive_81 : decode cX10_moveLive 81 = .ok (.return_, 1) := by decide +kernel
abbrev MX10_moveLive : MI := (RX10, cX10_moveLive, 4, 5, false)
def lcX10_moveLive_1 : Ex Bool := (ltI (lvI 3) (calX decI (ckV 9 1) mX9_boxEnd (agC va_rf (getR 10 10 (lvR 0)) (agC Value.int (lvI 1) agN))))
def lbX10_moveLive_1 : St := (forB (ifS (eqI (calX decI (ckV 5 1) mX5_at (agC va_rf (getR 10 8 (lvR 0)) (agC Value.int (lvI 3) agN))) (ciI (iI 1))) (calS (ckV 9 4) mX9_write (agC va_rf (lvR 2) (agC Value.int (calX decI (ckV 5 1) mX5_at (agC va_rf (getR 9 0 (getR 10 10 (lvR 0))) (agC Value.int (lvI 3) agN))) (agC Value.int (calX decI (ckV 10 1) mX10_lengthAt (agC va_rf (lvR 0) (agC Value.int (lvI 3) agN))) (agC Value.int (calX decI (ckV 5 1) mX5_at (agC va_rf (getR 9 1 (getR 10 10 (lvR 0))) (agC Value.int (lvI 3) agN))) (agC Value.int (calX decI (ckV 6 1) mX6_number (agC va_rf (getR 10 0 (lvR 0)) (agC Value.int (ciI (iI 0)) agN))) agN))))))) (incI 3 (iI 1)))
def bX10_moveLive : St := (seqS (scS 3 (seqS (lsI 3 (calX decI (ckV 5 1) mX5_at (agC va_rf (getR 9 3 (getR 10 10 (lvR 0))) (agC Value.int (lvI 1) agN)))) (whileS lcX10_moveLive_1 lbX10_moveLive_1))) retV)
theorem jX10_moveLive : JS MX10_moveLive 0 0 0 82 [] bX10_moveLive :=
  (JS.seq (pc1 := 81) (JS.sc (JS.seq (pc1 := 12) (JS.is (pc1 := 11) (k := 3) (JX.call (pc1 := 8) decI_ok (JA.r (JX.getR (pc1 := 4) (c := 9) (k := 3) (i := 204) (JX.getR (pc1 := 1) (c := 10) (k := 10) (i := 64) (JX.al (k := 0) rfl dX10_moveLive_0) cl10 (by decide) rfl fk10_64 dX10_moveLive_1) cl9 (by decide) rfl fk10_204 dX10_moveLive_4) (JA.i (JX.il (k := 1) rfl dX10_moveLive_7) JA.nil)) aX5_at (RunK.V (i := 114) (c := 5) (n := 1) cl5 rfl (CN nX5_at (by decide) (by decide)) gw774 gw595 gw596 dX10_moveLive_8) (by decide)) rfl (show 3 < 4 by decide) dX10_moveLive_11) (JS.while (l := 81) (lb := 81) (pc1 := 24) (pc2 := 78) (pc3 := 81) (CJ.lt_f (tgt := 81) (pc1 := 13) (pc2 := 21) (JX.il (k := 3) rfl dX10_moveLive_12) (JX.call (pc1 := 18) decI_ok (JA.r (JX.getR (pc1 := 14) (c := 10) (k := 10) (i := 64) (JX.al (k := 0) rfl dX10_moveLive_13) cl10 (by decide) rfl fk10_64 dX10_moveLive_14) (JA.i (JX.il (k := 1) rfl dX10_moveLive_17) JA.nil)) aX9_boxEnd (RunK.V (i := 207) (c := 9) (n := 1) cl9 rfl (CN nX9_boxEnd (by decide) (by decide)) gw845 gw836 gw837 dX10_moveLive_18) (by decide)) dX10_moveLive_21 rfl) (JS.forb (pc1 := 75) (JS.iff (l := 75) (pc1 := 36) (CJ.eq_f (tgt := 75) (pc1 := 32) (pc2 := 33) (JX.call (pc1 := 29) decI_ok (JA.r (JX.getR (pc1 := 25) (c := 10) (k := 8) (i := 55) (JX.al (k := 0) rfl dX10_moveLive_24) cl10 (by decide) rfl fk10_55 dX10_moveLive_25) (JA.i (JX.il (k := 3) rfl dX10_moveLive_28) JA.nil)) aX5_at (RunK.V (i := 114) (c := 5) (n := 1) cl5 rfl (CN nX5_at (by decide) (by decide)) gw774 gw595 gw596 dX10_moveLive_29) (by decide)) (JX.ic (n := 1) rfl dX10_moveLive_32) dX10_moveLive_33 rfl) (JS.call (pc1 := 72) (JA.r (JX.al (k := 2) rfl dX10_moveLive_36) (JA.i (JX.call (pc1 := 45) decI_ok (JA.r (JX.getR (pc1 := 41) (c := 9) (k := 0) (i := 121) (JX.getR (pc1 := 38) (c := 10) (k := 10) (i := 64) (JX.al (k := 0) rfl dX10_moveLive_37) cl10 (by decide) rfl fk10_64 dX10_moveLive_38) cl9 (by decide) rfl fk10_121 dX10_moveLive_41) (JA.i (JX.il (k := 3) rfl dX10_moveLive_44) JA.nil)) aX5_at (RunK.V (i := 114) (c := 5) (n := 1) cl5 rfl (CN nX5_at (by decide) (by decide)) gw774 gw595 gw596 dX10_moveLive_45) (by decide)) (JA.i (JX.call (pc1 := 50) decI_ok (JA.r (JX.al (k := 0) rfl dX10_moveLive_48) (JA.i (JX.il (k := 3) rfl dX10_moveLive_49) JA.nil)) aX10_lengthAt (RunK.V (i := 137) (c := 10) (n := 1) cl10 rfl (CN nX10_lengthAt (by decide) (by decide)) gw813 gw814 gw815 dX10_moveLive_50) (by decide)) (JA.i (JX.call (pc1 := 61) decI_ok (JA.r (JX.getR (pc1 := 57) (c := 9) (k := 1) (i := 210) (JX.getR (pc1 := 54) (c := 10) (k := 10) (i := 64) (JX.al (k := 0) rfl dX10_moveLive_53) cl10 (by decide) rfl fk10_64 dX10_moveLive_54) cl9 (by decide) rfl fk10_210 dX10_moveLive_57) (JA.i (JX.il (k := 3) rfl dX10_moveLive_60) JA.nil)) aX5_at (RunK.V (i := 114) (c := 5) (n := 1) cl5 rfl (CN nX5_at (by decide) (by decide)) gw774 gw595 gw596 dX10_moveLive_61) (by decide)) (JA.i (JX.call (pc1 := 69) decI_ok (JA.r (JX.getR (pc1 := 65) (c := 10) (k := 0) (i := 12) (JX.al (k := 0) rfl dX10_moveLive_64) cl10 (by decide) rfl fk10_12 dX10_moveLive_65) (JA.i (JX.ic (n := 0) rfl dX10_moveLive_68) JA.nil)) aX6_number (RunK.V (i := 147) (c := 6) (n := 1) cl6 rfl (CN nX6_number (by decide) (by decide)) gw779 gw762 gw763 dX10_moveLive_69) (by decide)) JA.nil))))) aX9_write (RunK.V (i := 272) (c := 9) (n := 4) cl9 rfl (CN nX9_write (by decide) (by decide)) gw1076 gw1077 gw1078 dX10_moveLive_72)) (Or.inl rfl)) (JS.inc (n := 1) rfl (show 3 < 4 by decide) dX10_moveLive_75)) dX10_moveLive_78 rfl (Or.inl rfl) (Or.inl rfl)))) (JS.retV dX10_moveLive_81))
def mX10_moveLive : MS := runM 4 none bX10_moveLive
theorem aX10_moveLive : MA yX10_moveLive cX10_moveLive 4 none 5 mX10_moveLive := MA.of (plainFor_of_name (by decide)) jX10_moveLive
theorem eX10_moveLive (a0 : Nat) (a1 : Int32) (a2 : Nat) (h : AH) : mX10_moveLive [.ref a0, .int a1, .ref a2] h = (bX10_moveLive [.val (.ref a0), .val (.int a1), .val (.ref a2), .unset] h).bind (finM none) := rfl
/-! Vault.cleanInto -/
theorem dX10_cleanInto_0 : decode cX10_cleanInto 0 = .ok (.aload_n 0, 1) := by decide +kernel
theorem dX10_cleanInto_1 : decode cX10_cleanInto 1 = .ok (.iconst 0, 1) := by decide +kernel
theorem dX10_cleanInto_2 : decode cX10_cleanInto 2 = .ok (.invokevirtual 195, 3) := by decide +kernel
theorem dX10_cleanInto_5 : decode cX10_cleanInto 5 = .ok (.aload_n 0, 1) := by decide +kernel
theorem dX10_cleanInto_6 : decode cX10_cleanInto 6 = .ok (.getfield 58, 3) := by decide +kernel
theorem dX10_cleanInto_9 : decode cX10_cleanInto 9 = .ok (.invokevirtual 101, 3) := by decide +kernel
theorem dX10_cleanInto_12 : decode cX10_cleanInto 12 = .ok (.aload_n 1, 1) := by decide +kernel
theorem dX10_cleanInto_13 : decode cX10_cleanInto 13 = .ok (.invokevirtual 298, 3) := by decide +kernel
theorem dX10_cleanInto_16 : decode cX10_cleanInto 16 = .ok (.aload_n 1, 1) := by decide +kernel
theorem dX10_cleanInto_17 : decode cX10_cleanInto 17 = .ok (.aload_n 0, 1) := by decide +kernel
theorem dX10_cleanInto_18 : decode cX10_cleanInto 18 = .ok (.getfield 64, 3) := by decide +kernel
theorem dX10_cleanInto_21 : decode cX10_cleanInto 21 = .ok (.invokevirtual 301, 3) := by decide +kernel
theorem dX10_cleanInto_24 : decode cX10_cleanInto 24 = .ok (.iconst 0, 1) := by decide +kernel
theorem dX10_cleanInto_25 : decode cX10_cleanInto 25 = .ok (.istore_n 2, 1) := by decide +kernel
theorem dX10_cleanInto_26 : decode cX10_cleanInto 26 = .ok (.iload_n 2, 1) := by decide +kernel
theorem dX10_cleanInto_27 : decode cX10_cleanInto 27 = .ok (.aload_n 0, 1) := by decide +kernel
theorem dX10_cleanInto_28 : decode cX10_cleanInto 28 = .ok (.getfield 64, 3) := by decide +kernel
theorem dX10_cleanInto_31 : decode cX10_cleanInto 31 = .ok (.getfield 219, 3) := by decide +kernel
theorem dX10_cleanInto_34 : decode cX10_cleanInto 34 = .ok (.invokevirtual 157, 3) := by decide +kernel
theorem dX10_cleanInto_37 : decode cX10_cleanInto 37 = .ok (.if_icmp .ge 63, 3) := by decide +kernel
theorem dX10_cleanInto_40 : decode cX10_cleanInto 40 = .ok (.aload_n 0, 1) := by decide +kernel
theorem dX10_cleanInto_41 : decode cX10_cleanInto 41 = .ok (.getfield 64, 3) := by decide +kernel
theorem dX10_cleanInto_44 : decode cX10_cleanInto 44 = .ok (.getfield 213, 3) := by decide +kernel
theorem dX10_cleanInto_47 : decode cX10_cleanInto 47 = .ok (.iload_n 2, 1) := by decide +kernel
theorem dX10_cleanInto_48 : decode cX10_cleanInto 48 = .ok (.invokevirtual 114, 3) := by decide +kernel
theorem dX10_cleanInto_51 : decode cX10_cleanInto 51 = .ok (.ifCond .ne 15, 3) := by decide +kernel
theorem dX10_cleanInto_54 : decode cX10_cleanInto 54 = .ok (.aload_n 0, 1) := by decide +kernel
theorem dX10_cleanInto_55 : decode cX10_cleanInto 55 = .ok (.iload_n 2, 1) := by decide +kernel
theorem dX10_cleanInto_56 : decode cX10_cleanInto 56 = .ok (.invokevirtual 288, 3) := by decide +kernel
theorem dX10_cleanInto_59 : decode cX10_cleanInto 59 = .ok (.ifCond .eq 7, 3) := by decide +kernel
theorem dX10_cleanInto_62 : decode cX10_cleanInto 62 = .ok (.iconst 1, 1) := by decide +kernel
theorem dX10_cleanInto_63 : decode cX10_cleanInto 63 = .ok (.goto 4, 3) := by decide +kernel
theorem dX10_cleanInto_66 : decode cX10_cleanInto 66 = .ok (.iconst 0, 1) := by decide +kernel
theorem dX10_cleanInto_67 : decode cX10_cleanInto 67 = .ok (.istore_n 3, 1) := by decide +kernel
theorem dX10_cleanInto_68 : decode cX10_cleanInto 68 = .ok (.aload_n 0, 1) := by decide +kernel
theorem dX10_cleanInto_69 : decode cX10_cleanInto 69 = .ok (.getfield 58, 3) := by decide +kernel
theorem dX10_cleanInto_72 : decode cX10_cleanInto 72 = .ok (.iload_n 3, 1) := by decide +kernel
theorem dX10_cleanInto_73 : decode cX10_cleanInto 73 = .ok (.ifCond .eq 7, 3) := by decide +kernel
theorem dX10_cleanInto_76 : decode cX10_cleanInto 76 = .ok (.iconst 1, 1) := by decide +kernel
theorem dX10_cleanInto_77 : decode cX10_cleanInto 77 = .ok (.goto 4, 3) := by decide +kernel
theorem dX10_cleanInto_80 : decode cX10_cleanInto 80 = .ok (.iconst 0, 1) := by decide +kernel
theorem dX10_cleanInto_81 : decode cX10_cleanInto 81 = .ok (.invokevirtual 269, 3) := by decide +kernel
theorem dX10_cleanInto_84 : decode cX10_cleanInto 84 = .ok (.iload_n 3, 1) := by decide +kernel
theorem dX10_cleanInto_85 : decode cX10_cleanInto 85 = .ok (.ifCond .ne 9, 3) := by decide +kernel
theorem dX10_cleanInto_88 : decode cX10_cleanInto 88 = .ok (.aload_n 0, 1) := by decide +kernel
theorem dX10_cleanInto_89 : decode cX10_cleanInto 89 = .ok (.iload_n 2, 1) := by decide +kernel
theorem dX10_cleanInto_90 : decode cX10_cleanInto 90 = .ok (.aload_n 1, 1) := by decide +kernel
theorem dX10_cleanInto_91 : decode cX10_cleanInto 91 = .ok (.invokevirtual 304, 3) := by decide +kernel
theorem dX10_cleanInto_94 : decode cX10_cleanInto 94 = .ok (.iinc 2 1, 3) := by decide +kernel
theorem dX10_cleanInto_97 : decode cX10_cleanInto 97 = .ok (.goto (-71), 3) := by decide +kernel
theorem dX10_cleanInto_100 : decode cX10_cleanInto 100 = .ok (.iconst 0, 1) := by decide +kernel
theorem dX10_cleanInto_101 : decode cX10_cleanInto 101 = .ok (.istore_n 2, 1) := by decide +kernel
theorem dX10_cleanInto_102 : decode cX10_cleanInto 102 = .ok (.iload_n 2, 1) := by decide +kernel
theorem dX10_cleanInto_103 : decode cX10_cleanInto 103 = .ok (.aload_n 0, 1) := by decide +kernel
theorem dX10_cleanInto_104 : decode cX10_cleanInto 104 = .ok (.getfield 58, 3) := by decide +kernel
theorem dX10_cleanInto_107 : decode cX10_cleanInto 107 = .ok (.invokevirtual 157, 3) := by decide +kernel
theorem dX10_cleanInto_110 : decode cX10_cleanInto 110 = .ok (.if_icmp .ge 27, 3) := by decide +kernel
theorem dX10_cleanInto_113 : decode cX10_cleanInto 113 = .ok (.aload_n 0, 1) := by decide +kernel
theorem dX10_cleanInto_114 : decode cX10_cleanInto 114 = .ok (.getfield 58, 3) := by decide +kernel
theorem dX10_cleanInto_117 : decode cX10_cleanInto 117 = .ok (.iload_n 2, 1) := by decide +kernel
theorem dX10_cleanInto_118 : decode cX10_cleanInto 118 = .ok (.invokevirtual 114, 3) := by decide +kernel
theorem dX10_cleanInto_121 : decode cX10_cleanInto 121 = .ok (.iconst 1, 1) := by decide +kernel
theorem dX10_cleanInto_122 : decode cX10_cleanInto 122 = .ok (.if_icmp .ne 9, 3) := by decide +kernel
theorem dX10_cleanInto_125 : decode cX10_cleanInto 125 = .ok (.aload_n 0, 1) := by decide +kernel
theorem dX10_cleanInto_126 : decode cX10_cleanInto 126 = .ok (.iload_n 2, 1) := by decide +kernel
theorem dX10_cleanInto_127 : decode cX10_cleanInto 127 = .ok (.aload_n 1, 1) := by decide +kernel
theorem dX10_cleanInto_128 : decode cX10_cleanInto 128 = .ok (.invokevirtual 308, 3) := by decide +kernel
theorem dX10_cleanInto_131 : decode cX10_cleanInto 131 = .ok (.iinc 2 1, 3) := by decide +kernel
theorem dX10_cleanInto_134 : decode cX10_cleanInto 134 = .ok (.goto (-32), 3) := by decide +kernel
theorem dX10_cleanInto_137 : decode cX10_cleanInto 137 = .ok (.aload_n 0, 1) := by decide +kernel
theorem dX10_cleanInto_138 : decode cX10_cleanInto 138 = .ok (.getfield 58, 3) := by decide +kernel
theorem dX10_cleanInto_141 : decode cX10_cleanInto 141 = .ok (.invokevirtual 198, 3) := by decide +kernel
theorem dX10_cleanInto_144 : decode cX10_cleanInto 144 = .ok (.ireturn, 1) := by decide +kernel
abbrev MX10_cleanInto : MI := (RX10, cX10_cleanInto, 4, 6, false)
def lcX10_cleanInto_1 : Ex Bool := (ltI (lvI 2) (calX decI (ckV 5 0) mX5_size (agC va_rf (getR 9 5 (getR 10 10 (lvR 0))) agN)))
def lbX10_cleanInto_1 : St := (forB (scS 3 (seqS (lsI 3 (iteX (andX (eq0 (calX decI (ckV 5 1) mX5_at (agC va_rf (getR 9 6 (getR 10 10 (lvR 0))) (agC Value.int (lvI 2) agN)))) (ne0 (calX decI (ckV 10 1) mX10_isMarkedForCleaning (agC va_rf (lvR 0) (agC Value.int (lvI 2) agN))))) (ciI (iI 1)) (ciI (iI 0)))) (seqS (calS (ckV 5 1) mX5_add (agC va_rf (getR 10 9 (lvR 0)) (agC Value.int (iteX (ne0 (lvI 3)) (ciI (iI 1)) (ciI (iI 0))) agN))) (ifS (notX (ne0 (lvI 3))) (calS (ckV 10 2) mX10_copyBox (agC va_rf (lvR 0) (agC Value.int (lvI 2) (agC va_rf (lvR 1) agN)))))))) (incI 2 (iI 1)))
def lcX10_cleanInto_2 : Ex Bool := (ltI (lvI 2) (calX decI (ckV 5 0) mX5_size (agC va_rf (getR 10 9 (lvR 0)) agN)))
def lbX10_cleanInto_2 : St := (forB (ifS (eqI (calX decI (ckV 5 1) mX5_at (agC va_rf (getR 10 9 (lvR 0)) (agC Value.int (lvI 2) agN))) (ciI (iI 1))) (calS (ckV 10 2) mX10_moveLive (agC va_rf (lvR 0) (agC Value.int (lvI 2) (agC va_rf (lvR 1) agN))))) (incI 2 (iI 1)))
def bX10_cleanInto : St := (seqS (calS (ckV 10 1) mX10_markLive (agC va_rf (lvR 0) (agC Value.int (ciI (iI 0)) agN))) (seqS (calS (ckV 5 0) mX5_clear (agC va_rf (getR 10 9 (lvR 0)) agN)) (seqS (calS (ckV 9 0) mX9_emptyBoxes (agC va_rf (lvR 1) agN)) (seqS (calS (ckV 9 1) mX9_copyRest (agC va_rf (lvR 1) (agC va_rf (getR 10 10 (lvR 0)) agN))) (seqS (scS 2 (seqS (lsI 2 (ciI (iI 0))) (whileS lcX10_cleanInto_1 lbX10_cleanInto_1))) (seqS (scS 2 (seqS (lsI 2 (ciI (iI 0))) (whileS lcX10_cleanInto_2 lbX10_cleanInto_2))) (retI (calX decI (ckV 5 0) mX5_total (agC va_rf (getR 10 9 (lvR 0)) agN)))))))))
theorem jX10_cleanInto : JS MX10_cleanInto 0 0 0 145 [] bX10_cleanInto :=
  (JS.seq (pc1 := 5) (JS.call (pc1 := 2) (JA.r (JX.al (k := 0) rfl dX10_cleanInto_0) (JA.i (JX.ic (n := 0) rfl dX10_cleanInto_1) JA.nil)) aX10_markLive (RunK.V (i := 195) (c := 10) (n := 1) cl10 rfl (CN nX10_markLive (by decide) (by decide)) gw784 gw786 gs29 dX10_cleanInto_2)) (JS.seq (pc1 := 12) (JS.call (pc1 := 9) (JA.r (JX.getR (pc1 := 6) (c := 10) (k := 9) (i := 58) (JX.al (k := 0) rfl dX10_cleanInto_5) cl10 (by decide) rfl fk10_58 dX10_cleanInto_6) JA.nil) aX5_clear (RunK.V (i := 101) (c := 5) (n := 0) cl5 rfl (CN nX5_clear (by decide) (by decide)) gw420 gw209 gw210 dX10_cleanInto_9)) (JS.seq (pc1 := 16) (JS.call (pc1 := 13) (JA.r (JX.al (k := 1) rfl dX10_cleanInto_12) JA.nil) aX9_emptyBoxes (RunK.V (i := 298) (c := 9) (n := 0) cl9 rfl (CN nX9_emptyBoxes (by decide) (by decide)) gw1051 gw426 gw427 dX10_cleanInto_13)) (JS.seq (pc1 := 24) (JS.call (pc1 := 21) (JA.r (JX.al (k := 1) rfl dX10_cleanInto_16) (JA.r (JX.getR (pc1 := 18) (c := 10) (k := 10) (i := 64) (JX.al (k := 0) rfl dX10_cleanInto_17) cl10 (by decide) rfl fk10_64 dX10_cleanInto_18) JA.nil)) aX9_copyRest (RunK.V (i := 301) (c := 9) (n := 1) cl9 rfl (CN nX9_copyRest (by decide) (by decide)) gw1052 gw1053 gw1054 dX10_cleanInto_21)) (JS.seq (pc1 := 100) (JS.sc (JS.seq (pc1 := 26) (JS.is (pc1 := 25) (k := 2) (JX.ic (n := 0) rfl dX10_cleanInto_24) rfl (show 2 < 4 by decide) dX10_cleanInto_25) (JS.while (l := 100) (lb := 100) (pc1 := 40) (pc2 := 97) (pc3 := 100) (CJ.lt_f (tgt := 100) (pc1 := 27) (pc2 := 37) (JX.il (k := 2) rfl dX10_cleanInto_26) (JX.call (pc1 := 34) decI_ok (JA.r (JX.getR (pc1 := 31) (c := 9) (k := 5) (i := 219) (JX.getR (pc1 := 28) (c := 10) (k := 10) (i := 64) (JX.al (k := 0) rfl dX10_cleanInto_27) cl10 (by decide) rfl fk10_64 dX10_cleanInto_28) cl9 (by decide) rfl fk10_219 dX10_cleanInto_31) JA.nil) aX5_size (RunK.V (i := 157) (c := 5) (n := 0) cl5 rfl (CN nX5_size (by decide) (by decide)) gw788 gw587 gw588 dX10_cleanInto_34) (by decide)) dX10_cleanInto_37 rfl) (JS.forb (pc1 := 94) (JS.sc (JS.seq (pc1 := 68) (JS.is (pc1 := 67) (k := 3) (JX.ite (l := 66) (pc1 := 62) (pc2 := 63) (pc3 := 67) (lend := 67) (CJ.and_f (pc1 := 54) (CJ.eq0_f (tgt := 66) (pc1 := 51) (JX.call (pc1 := 48) decI_ok (JA.r (JX.getR (pc1 := 44) (c := 9) (k := 6) (i := 213) (JX.getR (pc1 := 41) (c := 10) (k := 10) (i := 64) (JX.al (k := 0) rfl dX10_cleanInto_40) cl10 (by decide) rfl fk10_64 dX10_cleanInto_41) cl9 (by decide) rfl fk10_213 dX10_cleanInto_44) (JA.i (JX.il (k := 2) rfl dX10_cleanInto_47) JA.nil)) aX5_at (RunK.V (i := 114) (c := 5) (n := 1) cl5 rfl (CN nX5_at (by decide) (by decide)) gw774 gw595 gw596 dX10_cleanInto_48) (by decide)) dX10_cleanInto_51 rfl) (CJ.ne0_f (tgt := 66) (pc1 := 59) (JX.call (pc1 := 56) decI_ok (JA.r (JX.al (k := 0) rfl dX10_cleanInto_54) (JA.i (JX.il (k := 2) rfl dX10_cleanInto_55) JA.nil)) aX10_isMarkedForCleaning (RunK.V (i := 288) (c := 10) (n := 1) cl10 rfl (CN nX10_isMarkedForCleaning (by decide) (by decide)) gw850 gw852 gs31 dX10_cleanInto_56) (by decide)) dX10_cleanInto_59 rfl)) (JX.ic (n := 1) rfl dX10_cleanInto_62) dX10_cleanInto_63 rfl (JX.ic (n := 0) rfl dX10_cleanInto_66) (Or.inl rfl)) rfl (show 3 < 4 by decide) dX10_cleanInto_67) (JS.seq (pc1 := 84) (JS.call (pc1 := 81) (JA.r (JX.getR (pc1 := 69) (c := 10) (k := 9) (i := 58) (JX.al (k := 0) rfl dX10_cleanInto_68) cl10 (by decide) rfl fk10_58 dX10_cleanInto_69) (JA.i (JX.ite (l := 80) (pc1 := 76) (pc2 := 77) (pc3 := 81) (lend := 81) (CJ.ne0_f (tgt := 80) (pc1 := 73) (JX.il (k := 3) rfl dX10_cleanInto_72) dX10_cleanInto_73 rfl) (JX.ic (n := 1) rfl dX10_cleanInto_76) dX10_cleanInto_77 rfl (JX.ic (n := 0) rfl dX10_cleanInto_80) (Or.inl rfl)) JA.nil)) aX5_add (RunK.V (i := 269) (c := 5) (n := 1) cl5 rfl (CN nX5_add (by decide) (by decide)) gw1057 gw121 gw122 dX10_cleanInto_81)) (JS.iff (l := 94) (pc1 := 88) (CJ.not_f (CJ.ne0_t (tgt := 94) (pc1 := 85) (JX.il (k := 3) rfl dX10_cleanInto_84) dX10_cleanInto_85 rfl)) (JS.call (pc1 := 91) (JA.r (JX.al (k := 0) rfl dX10_cleanInto_88) (JA.i (JX.il (k := 2) rfl dX10_cleanInto_89) (JA.r (JX.al (k := 1) rfl dX10_cleanInto_90) JA.nil))) aX10_copyBox (RunK.V (i := 304) (c := 10) (n := 2) cl10 rfl (CN nX10_copyBox (by decide) (by decide)) gw1058 gw1060 gs40 dX10_cleanInto_91)) (Or.inl rfl))))) (JS.inc (n := 1) rfl (show 2 < 4 by decide) dX10_cleanInto_94)) dX10_cleanInto_97 rfl (Or.inl rfl) (Or.inl rfl)))) (JS.seq (pc1 := 137) (JS.sc (JS.seq (pc1 := 102) (JS.is (pc1 := 101) (k := 2) (JX.ic (n := 0) rfl dX10_cleanInto_100) rfl (show 2 < 4 by decide) dX10_cleanInto_101) (JS.while (l := 137) (lb := 137) (pc1 := 113) (pc2 := 134) (pc3 := 137) (CJ.lt_f (tgt := 137) (pc1 := 103) (pc2 := 110) (JX.il (k := 2) rfl dX10_cleanInto_102) (JX.call (pc1 := 107) decI_ok (JA.r (JX.getR (pc1 := 104) (c := 10) (k := 9) (i := 58) (JX.al (k := 0) rfl dX10_cleanInto_103) cl10 (by decide) rfl fk10_58 dX10_cleanInto_104) JA.nil) aX5_size (RunK.V (i := 157) (c := 5) (n := 0) cl5 rfl (CN nX5_size (by decide) (by decide)) gw788 gw587 gw588 dX10_cleanInto_107) (by decide)) dX10_cleanInto_110 rfl) (JS.forb (pc1 := 131) (JS.iff (l := 131) (pc1 := 125) (CJ.eq_f (tgt := 131) (pc1 := 121) (pc2 := 122) (JX.call (pc1 := 118) decI_ok (JA.r (JX.getR (pc1 := 114) (c := 10) (k := 9) (i := 58) (JX.al (k := 0) rfl dX10_cleanInto_113) cl10 (by decide) rfl fk10_58 dX10_cleanInto_114) (JA.i (JX.il (k := 2) rfl dX10_cleanInto_117) JA.nil)) aX5_at (RunK.V (i := 114) (c := 5) (n := 1) cl5 rfl (CN nX5_at (by decide) (by decide)) gw774 gw595 gw596 dX10_cleanInto_118) (by decide)) (JX.ic (n := 1) rfl dX10_cleanInto_121) dX10_cleanInto_122 rfl) (JS.call (pc1 := 128) (JA.r (JX.al (k := 0) rfl dX10_cleanInto_125) (JA.i (JX.il (k := 2) rfl dX10_cleanInto_126) (JA.r (JX.al (k := 1) rfl dX10_cleanInto_127) JA.nil))) aX10_moveLive (RunK.V (i := 308) (c := 10) (n := 2) cl10 rfl (CN nX10_moveLive (by decide) (by decide)) gw1072 gw1074 gs41 dX10_cleanInto_128)) (Or.inl rfl)) (JS.inc (n := 1) rfl (show 2 < 4 by decide) dX10_cleanInto_131)) dX10_cleanInto_134 rfl (Or.inl rfl) (Or.inl rfl)))) (JS.retI (pc1 := 144) (JX.call (pc1 := 141) decI_ok (JA.r (JX.getR (pc1 := 138) (c := 10) (k := 9) (i := 58) (JX.al (k := 0) rfl dX10_cleanInto_137) cl10 (by decide) rfl fk10_58 dX10_cleanInto_138) JA.nil) aX5_total (RunK.V (i := 198) (c := 5) (n := 0) cl5 rfl (CN nX5_total (by decide) (by decide)) gw798 gw799 gw800 dX10_cleanInto_141) (by decide)) dX10_cleanInto_144)))))))
def mX10_cleanInto : MS := runM 4 (some (.int)) bX10_cleanInto
theorem aX10_cleanInto : MA yX10_cleanInto cX10_cleanInto 4 (some (.int)) 6 mX10_cleanInto := MA.of (plainFor_of_name (by decide)) jX10_cleanInto
theorem eX10_cleanInto (a0 : Nat) (a1 : Nat) (h : AH) : mX10_cleanInto [.ref a0, .ref a1] h = (bX10_cleanInto [.val (.ref a0), .val (.ref a1), .unset, .unset] h).bind (finM (some (.int))) := rfl
