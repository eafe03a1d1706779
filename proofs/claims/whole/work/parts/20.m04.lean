/-! ===== by program: mk20.py: methods ===== -/
/-! Row.pop -/
theorem dX5_pop_0 : decode cX5_pop 0 = .ok (.aload_n 0, 1) := by decide +kernel
theorem dX5_pop_1 : decode cX5_pop 1 = .ok (.aload_n 0, 1) := by decide +kernel
theorem dX5_pop_2 : decode cX5_pop 2 = .ok (.getfield 15, 3) := by decide +kernel
theorem dX5_pop_5 : decode cX5_pop 5 = .ok (.iconst 1, 1) := by decide +kernel
theorem dX5_pop_6 : decode cX5_pop 6 = .ok (.isub, 1) := by decide +kernel
theorem dX5_pop_7 : decode cX5_pop 7 = .ok (.invokevirtual 25, 3) := by decide +kernel
theorem dX5_pop_10 : decode cX5_pop 10 = .ok (.istore_n 1, 1) := by decide +kernel
theorem dX5_pop_11 : decode cX5_pop 11 = .ok (.aload_n 0, 1) := by decide +kernel
theorem dX5_pop_12 : decode cX5_pop 12 = .ok (.aload_n 0, 1) := by decide +kernel
theorem dX5_pop_13 : decode cX5_pop 13 = .ok (.getfield 15, 3) := by decide +kernel
theorem dX5_pop_16 : decode cX5_pop 16 = .ok (.iconst 1, 1) := by decide +kernel
theorem dX5_pop_17 : decode cX5_pop 17 = .ok (.isub, 1) := by decide +kernel
theorem dX5_pop_18 : decode cX5_pop 18 = .ok (.invokevirtual 29, 3) := by decide +kernel
theorem dX5_pop_21 : decode cX5_pop 21 = .ok (.iload_n 1, 1) := by decide +kernel
theorem dX5_pop_22 : decode cX5_pop 22 = .ok (.ireturn, 1) := by decide +kernel
abbrev MX5_pop : MI := (RX5, cX5_pop, 2, 2, false)
def bX5_pop : St := (seqS (lsI 1 (calX decI (ckV 5 1) mX5_at (agC va_rf (lvR 0) (agC Value.int (subI (rszI (lvR 0)) (ciI (iI 1))) agN)))) (seqS (calS (ckV 5 1) mX5_cutTo (agC va_rf (lvR 0) (agC Value.int (subI (rszI (lvR 0)) (ciI (iI 1))) agN))) (retI (lvI 1))))
theorem jX5_pop : JS MX5_pop 0 0 0 23 [] bX5_pop :=
  (JS.seq (pc1 := 11) (JS.is (pc1 := 10) (k := 1) (JX.call (pc1 := 7) decI_ok (JA.r (JX.al (k := 0) rfl dX5_pop_0) (JA.i (JX.isub (pc1 := 5) (pc2 := 6) (JX.rsz (pc1 := 2) (i := 15) (JX.al (k := 0) rfl dX5_pop_1) cl5 fk5_15 dX5_pop_2) (JX.ic (n := 1) rfl dX5_pop_5) dX5_pop_6) JA.nil)) aX5_at (RunK.V (i := 25) (c := 5) (n := 1) cl5 rfl (CN nX5_at (by decide) (by decide)) gw652 gw595 gw596 dX5_pop_7) (by decide)) rfl (show 1 < 2 by decide) dX5_pop_10) (JS.seq (pc1 := 21) (JS.call (pc1 := 18) (JA.r (JX.al (k := 0) rfl dX5_pop_11) (JA.i (JX.isub (pc1 := 16) (pc2 := 17) (JX.rsz (pc1 := 13) (i := 15) (JX.al (k := 0) rfl dX5_pop_12) cl5 fk5_15 dX5_pop_13) (JX.ic (n := 1) rfl dX5_pop_16) dX5_pop_17) JA.nil)) aX5_cutTo (RunK.V (i := 29) (c := 5) (n := 1) cl5 rfl (CN nX5_cutTo (by decide) (by decide)) gw876 gw612 gw613 dX5_pop_18)) (JS.retI (pc1 := 22) (JX.il (k := 1) rfl dX5_pop_21) dX5_pop_22)))
def mX5_pop : MS := runM 2 (some (.int)) bX5_pop
theorem aX5_pop : MA yX5_pop cX5_pop 2 (some (.int)) 2 mX5_pop := MA.of (plainFor_of_name (by decide)) jX5_pop
theorem eX5_pop (a0 : Nat) (h : AH) : mX5_pop [.ref a0] h = (bX5_pop [.val (.ref a0), .unset] h).bind (finM (some (.int))) := rfl
/-! Code.holds -/
theorem dX0_holds_0 : decode cX0_holds 0 = .ok (.aload_n 0, 1) := by decide +kernel
theorem dX0_holds_1 : decode cX0_holds 1 = .ok (.getfield 18, 3) := by decide +kernel
theorem dX0_holds_4 : decode cX0_holds 4 = .ok (.invokevirtual 21, 3) := by decide +kernel
theorem dX0_holds_7 : decode cX0_holds 7 = .ok (.iconst 0, 1) := by decide +kernel
theorem dX0_holds_8 : decode cX0_holds 8 = .ok (.istore_n 2, 1) := by decide +kernel
theorem dX0_holds_9 : decode cX0_holds 9 = .ok (.iload_n 2, 1) := by decide +kernel
theorem dX0_holds_10 : decode cX0_holds 10 = .ok (.aload_n 0, 1) := by decide +kernel
theorem dX0_holds_11 : decode cX0_holds 11 = .ok (.getfield 12, 3) := by decide +kernel
theorem dX0_holds_14 : decode cX0_holds 14 = .ok (.invokevirtual 24, 3) := by decide +kernel
theorem dX0_holds_17 : decode cX0_holds 17 = .ok (.if_icmp .ge 156, 3) := by decide +kernel
theorem dX0_holds_20 : decode cX0_holds 20 = .ok (.aload_n 0, 1) := by decide +kernel
theorem dX0_holds_21 : decode cX0_holds 21 = .ok (.getfield 12, 3) := by decide +kernel
theorem dX0_holds_24 : decode cX0_holds 24 = .ok (.iload_n 2, 1) := by decide +kernel
theorem dX0_holds_25 : decode cX0_holds 25 = .ok (.invokevirtual 28, 3) := by decide +kernel
theorem dX0_holds_28 : decode cX0_holds 28 = .ok (.istore_n 3, 1) := by decide +kernel
theorem dX0_holds_29 : decode cX0_holds 29 = .ok (.iload_n 3, 1) := by decide +kernel
theorem dX0_holds_30 : decode cX0_holds 30 = .ok (.sipush 1000, 3) := by decide +kernel
theorem dX0_holds_33 : decode cX0_holds 33 = .ok (.if_icmp .lt 18, 3) := by decide +kernel
theorem dX0_holds_36 : decode cX0_holds 36 = .ok (.aload_n 0, 1) := by decide +kernel
theorem dX0_holds_37 : decode cX0_holds 37 = .ok (.getfield 18, 3) := by decide +kernel
theorem dX0_holds_40 : decode cX0_holds 40 = .ok (.iload_n 3, 1) := by decide +kernel
theorem dX0_holds_41 : decode cX0_holds 41 = .ok (.sipush 1000, 3) := by decide +kernel
theorem dX0_holds_44 : decode cX0_holds 44 = .ok (.isub, 1) := by decide +kernel
theorem dX0_holds_45 : decode cX0_holds 45 = .ok (.invokevirtual 32, 3) := by decide +kernel
theorem dX0_holds_48 : decode cX0_holds 48 = .ok (.goto 119, 3) := by decide +kernel
theorem dX0_holds_51 : decode cX0_holds 51 = .ok (.iload_n 3, 1) := by decide +kernel
theorem dX0_holds_52 : decode cX0_holds 52 = .ok (.bipush 100, 2) := by decide +kernel
theorem dX0_holds_54 : decode cX0_holds 54 = .ok (.if_icmp .lt 21, 3) := by decide +kernel
theorem dX0_holds_57 : decode cX0_holds 57 = .ok (.aload_n 0, 1) := by decide +kernel
theorem dX0_holds_58 : decode cX0_holds 58 = .ok (.getfield 18, 3) := by decide +kernel
theorem dX0_holds_61 : decode cX0_holds 61 = .ok (.aload_n 1, 1) := by decide +kernel
theorem dX0_holds_62 : decode cX0_holds 62 = .ok (.iload_n 3, 1) := by decide +kernel
theorem dX0_holds_63 : decode cX0_holds 63 = .ok (.bipush 100, 2) := by decide +kernel
theorem dX0_holds_65 : decode cX0_holds 65 = .ok (.isub, 1) := by decide +kernel
theorem dX0_holds_66 : decode cX0_holds 66 = .ok (.invokevirtual 28, 3) := by decide +kernel
theorem dX0_holds_69 : decode cX0_holds 69 = .ok (.invokevirtual 32, 3) := by decide +kernel
theorem dX0_holds_72 : decode cX0_holds 72 = .ok (.goto 95, 3) := by decide +kernel
theorem dX0_holds_75 : decode cX0_holds 75 = .ok (.iload_n 3, 1) := by decide +kernel
theorem dX0_holds_76 : decode cX0_holds 76 = .ok (.bipush 25, 2) := by decide +kernel
theorem dX0_holds_78 : decode cX0_holds 78 = .ok (.if_icmp .ne 22, 3) := by decide +kernel
theorem dX0_holds_81 : decode cX0_holds 81 = .ok (.aload_n 0, 1) := by decide +kernel
theorem dX0_holds_82 : decode cX0_holds 82 = .ok (.getfield 18, 3) := by decide +kernel
theorem dX0_holds_85 : decode cX0_holds 85 = .ok (.iconst 1, 1) := by decide +kernel
theorem dX0_holds_86 : decode cX0_holds 86 = .ok (.aload_n 0, 1) := by decide +kernel
theorem dX0_holds_87 : decode cX0_holds 87 = .ok (.getfield 18, 3) := by decide +kernel
theorem dX0_holds_90 : decode cX0_holds 90 = .ok (.invokevirtual 36, 3) := by decide +kernel
theorem dX0_holds_93 : decode cX0_holds 93 = .ok (.isub, 1) := by decide +kernel
theorem dX0_holds_94 : decode cX0_holds 94 = .ok (.invokevirtual 32, 3) := by decide +kernel
theorem dX0_holds_97 : decode cX0_holds 97 = .ok (.goto 70, 3) := by decide +kernel
theorem dX0_holds_100 : decode cX0_holds 100 = .ok (.aload_n 0, 1) := by decide +kernel
theorem dX0_holds_101 : decode cX0_holds 101 = .ok (.getfield 18, 3) := by decide +kernel
theorem dX0_holds_104 : decode cX0_holds 104 = .ok (.invokevirtual 36, 3) := by decide +kernel
theorem dX0_holds_107 : decode cX0_holds 107 = .ok (.istore 4, 2) := by decide +kernel
theorem dX0_holds_109 : decode cX0_holds 109 = .ok (.aload_n 0, 1) := by decide +kernel
theorem dX0_holds_110 : decode cX0_holds 110 = .ok (.getfield 18, 3) := by decide +kernel
theorem dX0_holds_113 : decode cX0_holds 113 = .ok (.invokevirtual 36, 3) := by decide +kernel
theorem dX0_holds_116 : decode cX0_holds 116 = .ok (.istore 5, 2) := by decide +kernel
theorem dX0_holds_118 : decode cX0_holds 118 = .ok (.iload_n 3, 1) := by decide +kernel
theorem dX0_holds_119 : decode cX0_holds 119 = .ok (.bipush 24, 2) := by decide +kernel
theorem dX0_holds_121 : decode cX0_holds 121 = .ok (.if_icmp .ne 18, 3) := by decide +kernel
theorem dX0_holds_124 : decode cX0_holds 124 = .ok (.aload_n 0, 1) := by decide +kernel
theorem dX0_holds_125 : decode cX0_holds 125 = .ok (.getfield 18, 3) := by decide +kernel
theorem dX0_holds_128 : decode cX0_holds 128 = .ok (.invokevirtual 36, 3) := by decide +kernel
theorem dX0_holds_131 : decode cX0_holds 131 = .ok (.iconst 1, 1) := by decide +kernel
theorem dX0_holds_132 : decode cX0_holds 132 = .ok (.if_icmp .eq 7, 3) := by decide +kernel
theorem dX0_holds_135 : decode cX0_holds 135 = .ok (.iconst 1, 1) := by decide +kernel
theorem dX0_holds_136 : decode cX0_holds 136 = .ok (.goto 4, 3) := by decide +kernel
theorem dX0_holds_139 : decode cX0_holds 139 = .ok (.iconst 0, 1) := by decide +kernel
theorem dX0_holds_140 : decode cX0_holds 140 = .ok (.istore 6, 2) := by decide +kernel
theorem dX0_holds_142 : decode cX0_holds 142 = .ok (.aload_n 0, 1) := by decide +kernel
theorem dX0_holds_143 : decode cX0_holds 143 = .ok (.getfield 18, 3) := by decide +kernel
theorem dX0_holds_146 : decode cX0_holds 146 = .ok (.iload 6, 2) := by decide +kernel
theorem dX0_holds_148 : decode cX0_holds 148 = .ok (.ifCond .eq 8, 3) := by decide +kernel
theorem dX0_holds_151 : decode cX0_holds 151 = .ok (.iload 4, 2) := by decide +kernel
theorem dX0_holds_153 : decode cX0_holds 153 = .ok (.goto 11, 3) := by decide +kernel
theorem dX0_holds_156 : decode cX0_holds 156 = .ok (.iload_n 3, 1) := by decide +kernel
theorem dX0_holds_157 : decode cX0_holds 157 = .ok (.iload 5, 2) := by decide +kernel
theorem dX0_holds_159 : decode cX0_holds 159 = .ok (.iload 4, 2) := by decide +kernel
theorem dX0_holds_161 : decode cX0_holds 161 = .ok (.invokestatic 39, 3) := by decide +kernel
theorem dX0_holds_164 : decode cX0_holds 164 = .ok (.invokevirtual 32, 3) := by decide +kernel
theorem dX0_holds_167 : decode cX0_holds 167 = .ok (.iinc 2 1, 3) := by decide +kernel
theorem dX0_holds_170 : decode cX0_holds 170 = .ok (.goto (-161), 3) := by decide +kernel
theorem dX0_holds_173 : decode cX0_holds 173 = .ok (.aload_n 0, 1) := by decide +kernel
theorem dX0_holds_174 : decode cX0_holds 174 = .ok (.getfield 18, 3) := by decide +kernel
theorem dX0_holds_177 : decode cX0_holds 177 = .ok (.iconst 0, 1) := by decide +kernel
theorem dX0_holds_178 : decode cX0_holds 178 = .ok (.invokevirtual 28, 3) := by decide +kernel
theorem dX0_holds_181 : decode cX0_holds 181 = .ok (.iconst 1, 1) := by decide +kernel
theorem dX0_holds_182 : decode cX0_holds 182 = .ok (.if_icmp .ne 7, 3) := by decide +kernel
theorem dX0_holds_185 : decode cX0_holds 185 = .ok (.iconst 1, 1) := by decide +kernel
theorem dX0_holds_186 : decode cX0_holds 186 = .ok (.goto 4, 3) := by decide +kernel
theorem dX0_holds_189 : decode cX0_holds 189 = .ok (.iconst 0, 1) := by decide +kernel
theorem dX0_holds_190 : decode cX0_holds 190 = .ok (.ireturn, 1) := by decide +kernel
abbrev MX0_holds : MI := (RX0, cX0_holds, 7, 3, false)
def lcX0_holds_1 : Ex Bool := (ltI (lvI 2) (calX decI (ckV 5 0) mX5_size (agC va_rf (getR 0 0 (lvR 0)) agN)))
def lbX0_holds_1 : St := (forB (scS 3 (seqS (lsI 3 (calX decI (ckV 5 1) mX5_at (agC va_rf (getR 0 0 (lvR 0)) (agC Value.int (lvI 2) agN)))) (ifeS (geI (lvI 3) (ciI (iI 1000))) (calS (ckV 5 1) mX5_add (agC va_rf (getR 0 1 (lvR 0)) (agC Value.int (subI (lvI 3) (ciI (iI 1000))) agN))) (ifeS (geI (lvI 3) (ciI (iI 100))) (calS (ckV 5 1) mX5_add (agC va_rf (getR 0 1 (lvR 0)) (agC Value.int (calX decI (ckV 5 1) mX5_at (agC va_rf (lvR 1) (agC Value.int (subI (lvI 3) (ciI (iI 100))) agN))) agN))) (ifeS (eqI (lvI 3) (ciI (iI 25))) (calS (ckV 5 1) mX5_add (agC va_rf (getR 0 1 (lvR 0)) (agC Value.int (subI (ciI (iI 1)) (calX decI (ckV 5 0) mX5_pop (agC va_rf (getR 0 1 (lvR 0)) agN))) agN))) (scS 4 (seqS (lsI 4 (calX decI (ckV 5 0) mX5_pop (agC va_rf (getR 0 1 (lvR 0)) agN))) (seqS (lsI 5 (calX decI (ckV 5 0) mX5_pop (agC va_rf (getR 0 1 (lvR 0)) agN))) (seqS (lsI 6 (iteX (andX (eqI (lvI 3) (ciI (iI 24))) (neI (calX decI (ckV 5 0) mX5_pop (agC va_rf (getR 0 1 (lvR 0)) agN)) (ciI (iI 1)))) (ciI (iI 1)) (ciI (iI 0)))) (calS (ckV 5 1) mX5_add (agC va_rf (getR 0 1 (lvR 0)) (agC Value.int (iteX (ne0 (lvI 6)) (lvI 4) (calX decI (ckS 3) mX0_result (agC Value.int (lvI 3) (agC Value.int (lvI 5) (agC Value.int (lvI 4) agN))))) agN)))))))))))) (incI 2 (iI 1)))
def bX0_holds : St := (seqS (calS (ckV 5 0) mX5_clear (agC va_rf (getR 0 1 (lvR 0)) agN)) (seqS (scS 2 (seqS (lsI 2 (ciI (iI 0))) (whileS lcX0_holds_1 lbX0_holds_1))) (retI (iteX (eqI (calX decI (ckV 5 1) mX5_at (agC va_rf (getR 0 1 (lvR 0)) (agC Value.int (ciI (iI 0)) agN))) (ciI (iI 1))) (ciI (iI 1)) (ciI (iI 0))))))
theorem jX0_holds : JS MX0_holds 0 0 0 191 [] bX0_holds :=
  (JS.seq (pc1 := 7) (JS.call (pc1 := 4) (JA.r (JX.getR (pc1 := 1) (c := 0) (k := 1) (i := 18) (JX.al (k := 0) rfl dX0_holds_0) cl0 (by decide) rfl fk0_18 dX0_holds_1) JA.nil) aX5_clear (RunK.V (i := 21) (c := 5) (n := 0) cl5 rfl (CN nX5_clear (by decide) (by decide)) gw868 gw209 gw210 dX0_holds_4)) (JS.seq (pc1 := 173) (JS.sc (JS.seq (pc1 := 9) (JS.is (pc1 := 8) (k := 2) (JX.ic (n := 0) rfl dX0_holds_7) rfl (show 2 < 7 by decide) dX0_holds_8) (JS.while (l := 173) (lb := 173) (pc1 := 20) (pc2 := 170) (pc3 := 173) (CJ.lt_f (tgt := 173) (pc1 := 10) (pc2 := 17) (JX.il (k := 2) rfl dX0_holds_9) (JX.call (pc1 := 14) decI_ok (JA.r (JX.getR (pc1 := 11) (c := 0) (k := 0) (i := 12) (JX.al (k := 0) rfl dX0_holds_10) cl0 (by decide) rfl fk0_12 dX0_holds_11) JA.nil) aX5_size (RunK.V (i := 24) (c := 5) (n := 0) cl5 rfl (CN nX5_size (by decide) (by decide)) gw869 gw587 gw588 dX0_holds_14) (by decide)) dX0_holds_17 rfl) (JS.forb (pc1 := 167) (JS.sc (JS.seq (pc1 := 29) (JS.is (pc1 := 28) (k := 3) (JX.call (pc1 := 25) decI_ok (JA.r (JX.getR (pc1 := 21) (c := 0) (k := 0) (i := 12) (JX.al (k := 0) rfl dX0_holds_20) cl0 (by decide) rfl fk0_12 dX0_holds_21) (JA.i (JX.il (k := 2) rfl dX0_holds_24) JA.nil)) aX5_at (RunK.V (i := 28) (c := 5) (n := 1) cl5 rfl (CN nX5_at (by decide) (by decide)) gw870 gw595 gw596 dX0_holds_25) (by decide)) rfl (show 3 < 7 by decide) dX0_holds_28) (JS.ife (l := 51) (lend := 167) (pc1 := 36) (pc2 := 48) (pc3 := 167) (CJ.ge_f (tgt := 51) (pc1 := 30) (pc2 := 33) (JX.il (k := 3) rfl dX0_holds_29) (JX.sp (n := 1000) ks1000 dX0_holds_30) dX0_holds_33 rfl) (JS.call (pc1 := 45) (JA.r (JX.getR (pc1 := 37) (c := 0) (k := 1) (i := 18) (JX.al (k := 0) rfl dX0_holds_36) cl0 (by decide) rfl fk0_18 dX0_holds_37) (JA.i (JX.isub (pc1 := 41) (pc2 := 44) (JX.il (k := 3) rfl dX0_holds_40) (JX.sp (n := 1000) ks1000 dX0_holds_41) dX0_holds_44) JA.nil)) aX5_add (RunK.V (i := 32) (c := 5) (n := 1) cl5 rfl (CN nX5_add (by decide) (by decide)) gw871 gw121 gw122 dX0_holds_45)) dX0_holds_48 rfl (JS.ife (l := 75) (lend := 167) (pc1 := 57) (pc2 := 72) (pc3 := 167) (CJ.ge_f (tgt := 75) (pc1 := 52) (pc2 := 54) (JX.il (k := 3) rfl dX0_holds_51) (JX.bp (n := 100) kb100 dX0_holds_52) dX0_holds_54 rfl) (JS.call (pc1 := 69) (JA.r (JX.getR (pc1 := 58) (c := 0) (k := 1) (i := 18) (JX.al (k := 0) rfl dX0_holds_57) cl0 (by decide) rfl fk0_18 dX0_holds_58) (JA.i (JX.call (pc1 := 66) decI_ok (JA.r (JX.al (k := 1) rfl dX0_holds_61) (JA.i (JX.isub (pc1 := 63) (pc2 := 65) (JX.il (k := 3) rfl dX0_holds_62) (JX.bp (n := 100) kb100 dX0_holds_63) dX0_holds_65) JA.nil)) aX5_at (RunK.V (i := 28) (c := 5) (n := 1) cl5 rfl (CN nX5_at (by decide) (by decide)) gw870 gw595 gw596 dX0_holds_66) (by decide)) JA.nil)) aX5_add (RunK.V (i := 32) (c := 5) (n := 1) cl5 rfl (CN nX5_add (by decide) (by decide)) gw871 gw121 gw122 dX0_holds_69)) dX0_holds_72 rfl (JS.ife (l := 100) (lend := 167) (pc1 := 81) (pc2 := 97) (pc3 := 167) (CJ.eq_f (tgt := 100) (pc1 := 76) (pc2 := 78) (JX.il (k := 3) rfl dX0_holds_75) (JX.bp (n := 25) kb25 dX0_holds_76) dX0_holds_78 rfl) (JS.call (pc1 := 94) (JA.r (JX.getR (pc1 := 82) (c := 0) (k := 1) (i := 18) (JX.al (k := 0) rfl dX0_holds_81) cl0 (by decide) rfl fk0_18 dX0_holds_82) (JA.i (JX.isub (pc1 := 86) (pc2 := 93) (JX.ic (n := 1) rfl dX0_holds_85) (JX.call (pc1 := 90) decI_ok (JA.r (JX.getR (pc1 := 87) (c := 0) (k := 1) (i := 18) (JX.al (k := 0) rfl dX0_holds_86) cl0 (by decide) rfl fk0_18 dX0_holds_87) JA.nil) aX5_pop (RunK.V (i := 36) (c := 5) (n := 0) cl5 rfl (CN nX5_pop (by decide) (by decide)) gw872 gw873 gw874 dX0_holds_90) (by decide)) dX0_holds_93) JA.nil)) aX5_add (RunK.V (i := 32) (c := 5) (n := 1) cl5 rfl (CN nX5_add (by decide) (by decide)) gw871 gw121 gw122 dX0_holds_94)) dX0_holds_97 rfl (JS.sc (JS.seq (pc1 := 109) (JS.is2 (pc1 := 107) (JX.call (pc1 := 104) decI_ok (JA.r (JX.getR (pc1 := 101) (c := 0) (k := 1) (i := 18) (JX.al (k := 0) rfl dX0_holds_100) cl0 (by decide) rfl fk0_18 dX0_holds_101) JA.nil) aX5_pop (RunK.V (i := 36) (c := 5) (n := 0) cl5 rfl (CN nX5_pop (by decide) (by decide)) gw872 gw873 gw874 dX0_holds_104) (by decide)) (show 4 < 7 by decide) dX0_holds_107) (JS.seq (pc1 := 118) (JS.is2 (pc1 := 116) (JX.call (pc1 := 113) decI_ok (JA.r (JX.getR (pc1 := 110) (c := 0) (k := 1) (i := 18) (JX.al (k := 0) rfl dX0_holds_109) cl0 (by decide) rfl fk0_18 dX0_holds_110) JA.nil) aX5_pop (RunK.V (i := 36) (c := 5) (n := 0) cl5 rfl (CN nX5_pop (by decide) (by decide)) gw872 gw873 gw874 dX0_holds_113) (by decide)) (show 5 < 7 by decide) dX0_holds_116) (JS.seq (pc1 := 142) (JS.is2 (pc1 := 140) (JX.ite (l := 139) (pc1 := 135) (pc2 := 136) (pc3 := 140) (lend := 140) (CJ.and_f (pc1 := 124) (CJ.eq_f (tgt := 139) (pc1 := 119) (pc2 := 121) (JX.il (k := 3) rfl dX0_holds_118) (JX.bp (n := 24) kb24 dX0_holds_119) dX0_holds_121 rfl) (CJ.ne_f (tgt := 139) (pc1 := 131) (pc2 := 132) (JX.call (pc1 := 128) decI_ok (JA.r (JX.getR (pc1 := 125) (c := 0) (k := 1) (i := 18) (JX.al (k := 0) rfl dX0_holds_124) cl0 (by decide) rfl fk0_18 dX0_holds_125) JA.nil) aX5_pop (RunK.V (i := 36) (c := 5) (n := 0) cl5 rfl (CN nX5_pop (by decide) (by decide)) gw872 gw873 gw874 dX0_holds_128) (by decide)) (JX.ic (n := 1) rfl dX0_holds_131) dX0_holds_132 rfl)) (JX.ic (n := 1) rfl dX0_holds_135) dX0_holds_136 rfl (JX.ic (n := 0) rfl dX0_holds_139) (Or.inl rfl)) (show 6 < 7 by decide) dX0_holds_140) (JS.call (pc1 := 164) (JA.r (JX.getR (pc1 := 143) (c := 0) (k := 1) (i := 18) (JX.al (k := 0) rfl dX0_holds_142) cl0 (by decide) rfl fk0_18 dX0_holds_143) (JA.i (JX.ite (l := 156) (pc1 := 151) (pc2 := 153) (pc3 := 164) (lend := 164) (CJ.ne0_f (tgt := 156) (pc1 := 148) (JX.il2 dX0_holds_146) dX0_holds_148 rfl) (JX.il2 dX0_holds_151) dX0_holds_153 rfl (JX.call (pc1 := 161) decI_ok (JA.i (JX.il (k := 3) rfl dX0_holds_156) (JA.i (JX.il2 dX0_holds_157) (JA.i (JX.il2 dX0_holds_159) JA.nil))) aX0_result (RunK.S (i := 39) (n := 3) (CN nX0_result (by decide) (by decide)) gw877 gw878 dX0_holds_161) (by decide)) (Or.inl rfl)) JA.nil)) aX5_add (RunK.V (i := 32) (c := 5) (n := 1) cl5 rfl (CN nX5_add (by decide) (by decide)) gw871 gw121 gw122 dX0_holds_164)))))) (Or.inl rfl)) (Or.inl rfl)) (Or.inl rfl)))) (JS.inc (n := 1) rfl (show 2 < 7 by decide) dX0_holds_167)) dX0_holds_170 rfl (Or.inl rfl) (Or.inl rfl)))) (JS.retI (pc1 := 190) (JX.ite (l := 189) (pc1 := 185) (pc2 := 186) (pc3 := 190) (lend := 190) (CJ.eq_f (tgt := 189) (pc1 := 181) (pc2 := 182) (JX.call (pc1 := 178) decI_ok (JA.r (JX.getR (pc1 := 174) (c := 0) (k := 1) (i := 18) (JX.al (k := 0) rfl dX0_holds_173) cl0 (by decide) rfl fk0_18 dX0_holds_174) (JA.i (JX.ic (n := 0) rfl dX0_holds_177) JA.nil)) aX5_at (RunK.V (i := 28) (c := 5) (n := 1) cl5 rfl (CN nX5_at (by decide) (by decide)) gw870 gw595 gw596 dX0_holds_178) (by decide)) (JX.ic (n := 1) rfl dX0_holds_181) dX0_holds_182 rfl) (JX.ic (n := 1) rfl dX0_holds_185) dX0_holds_186 rfl (JX.ic (n := 0) rfl dX0_holds_189) (Or.inl rfl)) dX0_holds_190)))
def mX0_holds : MS := runM 7 (some (.boolean)) bX0_holds
theorem aX0_holds : MA yX0_holds cX0_holds 7 (some (.boolean)) 3 mX0_holds := MA.of (plainFor_of_name (by decide)) jX0_holds
theorem eX0_holds (a0 : Nat) (a1 : Nat) (h : AH) : mX0_holds [.ref a0, .ref a1] h = (bX0_holds [.val (.ref a0), .val (.ref a1), .unset, .unset, .unset, .unset, .unset] h).bind (finM (some (.boolean))) := rfl
/-! Rules.isForCleaning -/
theorem dX6_isForCleaning_0 : decode cX6_isForCleaning 0 = .ok (.aload_n 0, 1) := by decide +kernel
theorem dX6_isForCleaning_1 : decode cX6_isForCleaning 1 = .ok (.getfield 28, 3) := by decide +kernel
theorem dX6_isForCleaning_4 : decode cX6_isForCleaning 4 = .ok (.getfield 56, 3) := by decide +kernel
theorem dX6_isForCleaning_7 : decode cX6_isForCleaning 7 = .ok (.invokevirtual 66, 3) := by decide +kernel
theorem dX6_isForCleaning_10 : decode cX6_isForCleaning 10 = .ok (.ifCond .ne 14, 3) := by decide +kernel
theorem dX6_isForCleaning_13 : decode cX6_isForCleaning 13 = .ok (.iload_n 3, 1) := by decide +kernel
theorem dX6_isForCleaning_14 : decode cX6_isForCleaning 14 = .ok (.iload_n 2, 1) := by decide +kernel
theorem dX6_isForCleaning_15 : decode cX6_isForCleaning 15 = .ok (.if_icmp .le 7, 3) := by decide +kernel
theorem dX6_isForCleaning_18 : decode cX6_isForCleaning 18 = .ok (.iconst 1, 1) := by decide +kernel
theorem dX6_isForCleaning_19 : decode cX6_isForCleaning 19 = .ok (.goto 4, 3) := by decide +kernel
theorem dX6_isForCleaning_22 : decode cX6_isForCleaning 22 = .ok (.iconst 0, 1) := by decide +kernel
theorem dX6_isForCleaning_23 : decode cX6_isForCleaning 23 = .ok (.ireturn, 1) := by decide +kernel
theorem dX6_isForCleaning_24 : decode cX6_isForCleaning 24 = .ok (.aload_n 0, 1) := by decide +kernel
theorem dX6_isForCleaning_25 : decode cX6_isForCleaning 25 = .ok (.getfield 31, 3) := by decide +kernel
theorem dX6_isForCleaning_28 : decode cX6_isForCleaning 28 = .ok (.bipush 13, 2) := by decide +kernel
theorem dX6_isForCleaning_30 : decode cX6_isForCleaning 30 = .ok (.iload_n 1, 1) := by decide +kernel
theorem dX6_isForCleaning_31 : decode cX6_isForCleaning 31 = .ok (.invokevirtual 70, 3) := by decide +kernel
theorem dX6_isForCleaning_34 : decode cX6_isForCleaning 34 = .ok (.aload_n 0, 1) := by decide +kernel
theorem dX6_isForCleaning_35 : decode cX6_isForCleaning 35 = .ok (.getfield 31, 3) := by decide +kernel
theorem dX6_isForCleaning_38 : decode cX6_isForCleaning 38 = .ok (.bipush 19, 2) := by decide +kernel
theorem dX6_isForCleaning_40 : decode cX6_isForCleaning 40 = .ok (.iload_n 2, 1) := by decide +kernel
theorem dX6_isForCleaning_41 : decode cX6_isForCleaning 41 = .ok (.invokevirtual 70, 3) := by decide +kernel
theorem dX6_isForCleaning_44 : decode cX6_isForCleaning 44 = .ok (.aload_n 0, 1) := by decide +kernel
theorem dX6_isForCleaning_45 : decode cX6_isForCleaning 45 = .ok (.getfield 31, 3) := by decide +kernel
theorem dX6_isForCleaning_48 : decode cX6_isForCleaning 48 = .ok (.bipush 20, 2) := by decide +kernel
theorem dX6_isForCleaning_50 : decode cX6_isForCleaning 50 = .ok (.iload_n 3, 1) := by decide +kernel
theorem dX6_isForCleaning_51 : decode cX6_isForCleaning 51 = .ok (.invokevirtual 70, 3) := by decide +kernel
theorem dX6_isForCleaning_54 : decode cX6_isForCleaning 54 = .ok (.aload_n 0, 1) := by decide +kernel
theorem dX6_isForCleaning_55 : decode cX6_isForCleaning 55 = .ok (.getfield 31, 3) := by decide +kernel
theorem dX6_isForCleaning_58 : decode cX6_isForCleaning 58 = .ok (.bipush 21, 2) := by decide +kernel
theorem dX6_isForCleaning_60 : decode cX6_isForCleaning 60 = .ok (.iload 4, 2) := by decide +kernel
theorem dX6_isForCleaning_62 : decode cX6_isForCleaning 62 = .ok (.invokevirtual 70, 3) := by decide +kernel
theorem dX6_isForCleaning_65 : decode cX6_isForCleaning 65 = .ok (.aload_n 0, 1) := by decide +kernel
theorem dX6_isForCleaning_66 : decode cX6_isForCleaning 66 = .ok (.getfield 28, 3) := by decide +kernel
theorem dX6_isForCleaning_69 : decode cX6_isForCleaning 69 = .ok (.aload_n 0, 1) := by decide +kernel
theorem dX6_isForCleaning_70 : decode cX6_isForCleaning 70 = .ok (.getfield 31, 3) := by decide +kernel
theorem dX6_isForCleaning_73 : decode cX6_isForCleaning 73 = .ok (.invokevirtual 73, 3) := by decide +kernel
theorem dX6_isForCleaning_76 : decode cX6_isForCleaning 76 = .ok (.ireturn, 1) := by decide +kernel
abbrev MX6_isForCleaning : MI := (RX6, cX6_isForCleaning, 5, 4, false)
def bX6_isForCleaning : St := (seqS (ifS (eq0 (calX decI (ckV 5 0) mX5_size (agC va_rf (getR 0 0 (getR 6 3 (lvR 0))) agN))) (retI (iteX (gtI (lvI 3) (lvI 2)) (ciI (iI 1)) (ciI (iI 0))))) (seqS (calS (ckV 5 2) mX5_put (agC va_rf (getR 6 4 (lvR 0)) (agC Value.int (ciI (iI 13)) (agC Value.int (lvI 1) agN)))) (seqS (calS (ckV 5 2) mX5_put (agC va_rf (getR 6 4 (lvR 0)) (agC Value.int (ciI (iI 19)) (agC Value.int (lvI 2) agN)))) (seqS (calS (ckV 5 2) mX5_put (agC va_rf (getR 6 4 (lvR 0)) (agC Value.int (ciI (iI 20)) (agC Value.int (lvI 3) agN)))) (seqS (calS (ckV 5 2) mX5_put (agC va_rf (getR 6 4 (lvR 0)) (agC Value.int (ciI (iI 21)) (agC Value.int (lvI 4) agN)))) (retI (calX decI (ckV 0 1) mX0_holds (agC va_rf (getR 6 3 (lvR 0)) (agC va_rf (getR 6 4 (lvR 0)) agN)))))))))
theorem jX6_isForCleaning : JS MX6_isForCleaning 0 0 0 77 [] bX6_isForCleaning :=
  (JS.seq (pc1 := 24) (JS.iff (l := 24) (pc1 := 13) (CJ.eq0_f (tgt := 24) (pc1 := 10) (JX.call (pc1 := 7) decI_ok (JA.r (JX.getR (pc1 := 4) (c := 0) (k := 0) (i := 56) (JX.getR (pc1 := 1) (c := 6) (k := 3) (i := 28) (JX.al (k := 0) rfl dX6_isForCleaning_0) cl6 (by decide) rfl fk6_28 dX6_isForCleaning_1) cl0 (by decide) rfl fk6_56 dX6_isForCleaning_4) JA.nil) aX5_size (RunK.V (i := 66) (c := 5) (n := 0) cl5 rfl (CN nX5_size (by decide) (by decide)) gw862 gw587 gw588 dX6_isForCleaning_7) (by decide)) dX6_isForCleaning_10 rfl) (JS.retI (pc1 := 23) (JX.ite (l := 22) (pc1 := 18) (pc2 := 19) (pc3 := 23) (lend := 23) (CJ.gt_f (tgt := 22) (pc1 := 14) (pc2 := 15) (JX.il (k := 3) rfl dX6_isForCleaning_13) (JX.il (k := 2) rfl dX6_isForCleaning_14) dX6_isForCleaning_15 rfl) (JX.ic (n := 1) rfl dX6_isForCleaning_18) dX6_isForCleaning_19 rfl (JX.ic (n := 0) rfl dX6_isForCleaning_22) (Or.inl rfl)) dX6_isForCleaning_23) (Or.inl rfl)) (JS.seq (pc1 := 34) (JS.call (pc1 := 31) (JA.r (JX.getR (pc1 := 25) (c := 6) (k := 4) (i := 31) (JX.al (k := 0) rfl dX6_isForCleaning_24) cl6 (by decide) rfl fk6_31 dX6_isForCleaning_25) (JA.i (JX.bp (n := 13) kb13 dX6_isForCleaning_28) (JA.i (JX.il (k := 1) rfl dX6_isForCleaning_30) JA.nil))) aX5_put (RunK.V (i := 70) (c := 5) (n := 2) cl5 rfl (CN nX5_put (by decide) (by decide)) gw863 gw599 gw600 dX6_isForCleaning_31)) (JS.seq (pc1 := 44) (JS.call (pc1 := 41) (JA.r (JX.getR (pc1 := 35) (c := 6) (k := 4) (i := 31) (JX.al (k := 0) rfl dX6_isForCleaning_34) cl6 (by decide) rfl fk6_31 dX6_isForCleaning_35) (JA.i (JX.bp (n := 19) kb19 dX6_isForCleaning_38) (JA.i (JX.il (k := 2) rfl dX6_isForCleaning_40) JA.nil))) aX5_put (RunK.V (i := 70) (c := 5) (n := 2) cl5 rfl (CN nX5_put (by decide) (by decide)) gw863 gw599 gw600 dX6_isForCleaning_41)) (JS.seq (pc1 := 54) (JS.call (pc1 := 51) (JA.r (JX.getR (pc1 := 45) (c := 6) (k := 4) (i := 31) (JX.al (k := 0) rfl dX6_isForCleaning_44) cl6 (by decide) rfl fk6_31 dX6_isForCleaning_45) (JA.i (JX.bp (n := 20) kb20 dX6_isForCleaning_48) (JA.i (JX.il (k := 3) rfl dX6_isForCleaning_50) JA.nil))) aX5_put (RunK.V (i := 70) (c := 5) (n := 2) cl5 rfl (CN nX5_put (by decide) (by decide)) gw863 gw599 gw600 dX6_isForCleaning_51)) (JS.seq (pc1 := 65) (JS.call (pc1 := 62) (JA.r (JX.getR (pc1 := 55) (c := 6) (k := 4) (i := 31) (JX.al (k := 0) rfl dX6_isForCleaning_54) cl6 (by decide) rfl fk6_31 dX6_isForCleaning_55) (JA.i (JX.bp (n := 21) kb21 dX6_isForCleaning_58) (JA.i (JX.il2 dX6_isForCleaning_60) JA.nil))) aX5_put (RunK.V (i := 70) (c := 5) (n := 2) cl5 rfl (CN nX5_put (by decide) (by decide)) gw863 gw599 gw600 dX6_isForCleaning_62)) (JS.retI (pc1 := 76) (JX.call (pc1 := 73) decI_ok (JA.r (JX.getR (pc1 := 66) (c := 6) (k := 3) (i := 28) (JX.al (k := 0) rfl dX6_isForCleaning_65) cl6 (by decide) rfl fk6_28 dX6_isForCleaning_66) (JA.r (JX.getR (pc1 := 70) (c := 6) (k := 4) (i := 31) (JX.al (k := 0) rfl dX6_isForCleaning_69) cl6 (by decide) rfl fk6_31 dX6_isForCleaning_70) JA.nil)) aX0_holds (RunK.V (i := 73) (c := 0) (n := 1) cl0 rfl (CN nX0_holds (by decide) (by decide)) gw864 gw865 gw866 dX6_isForCleaning_73) (by decide)) dX6_isForCleaning_76))))))
def mX6_isForCleaning : MS := runM 5 (some (.boolean)) bX6_isForCleaning
theorem aX6_isForCleaning : MA yX6_isForCleaning cX6_isForCleaning 5 (some (.boolean)) 4 mX6_isForCleaning := MA.of (plainFor_of_name (by decide)) jX6_isForCleaning
theorem eX6_isForCleaning (a0 : Nat) (a1 : Int32) (a2 : Int32) (a3 : Int32) (a4 : Int32) (h : AH) : mX6_isForCleaning [.ref a0, .int a1, .int a2, .int a3, .int a4] h = (bX6_isForCleaning [.val (.ref a0), .val (.int a1), .val (.int a2), .val (.int a3), .val (.int a4)] h).bind (finM (some (.boolean))) := rfl
/-! Vault.liveBytes -/
theorem dX10_liveBytes_0 : decode cX10_liveBytes 0 = .ok (.iconst 0, 1) := by decide +kernel
theorem dX10_liveBytes_1 : decode cX10_liveBytes 1 = .ok (.istore_n 3, 1) := by decide +kernel
theorem dX10_liveBytes_2 : decode cX10_liveBytes 2 = .ok (.iload_n 1, 1) := by decide +kernel
theorem dX10_liveBytes_3 : decode cX10_liveBytes 3 = .ok (.istore 4, 2) := by decide +kernel
theorem dX10_liveBytes_5 : decode cX10_liveBytes 5 = .ok (.iload 4, 2) := by decide +kernel
theorem dX10_liveBytes_7 : decode cX10_liveBytes 7 = .ok (.iload_n 2, 1) := by decide +kernel
theorem dX10_liveBytes_8 : decode cX10_liveBytes 8 = .ok (.if_icmp .ge 35, 3) := by decide +kernel
theorem dX10_liveBytes_11 : decode cX10_liveBytes 11 = .ok (.iload_n 3, 1) := by decide +kernel
theorem dX10_liveBytes_12 : decode cX10_liveBytes 12 = .ok (.aload_n 0, 1) := by decide +kernel
theorem dX10_liveBytes_13 : decode cX10_liveBytes 13 = .ok (.getfield 55, 3) := by decide +kernel
theorem dX10_liveBytes_16 : decode cX10_liveBytes 16 = .ok (.iload 4, 2) := by decide +kernel
theorem dX10_liveBytes_18 : decode cX10_liveBytes 18 = .ok (.invokevirtual 114, 3) := by decide +kernel
theorem dX10_liveBytes_21 : decode cX10_liveBytes 21 = .ok (.iconst 1, 1) := by decide +kernel
theorem dX10_liveBytes_22 : decode cX10_liveBytes 22 = .ok (.if_icmp .ne 12, 3) := by decide +kernel
theorem dX10_liveBytes_25 : decode cX10_liveBytes 25 = .ok (.aload_n 0, 1) := by decide +kernel
theorem dX10_liveBytes_26 : decode cX10_liveBytes 26 = .ok (.iload 4, 2) := by decide +kernel
theorem dX10_liveBytes_28 : decode cX10_liveBytes 28 = .ok (.invokevirtual 137, 3) := by decide +kernel
theorem dX10_liveBytes_31 : decode cX10_liveBytes 31 = .ok (.goto 4, 3) := by decide +kernel
theorem dX10_liveBytes_34 : decode cX10_liveBytes 34 = .ok (.iconst 0, 1) := by decide +kernel
theorem dX10_liveBytes_35 : decode cX10_liveBytes 35 = .ok (.iadd, 1) := by decide +kernel
theorem dX10_liveBytes_36 : decode cX10_liveBytes 36 = .ok (.istore_n 3, 1) := by decide +kernel
theorem dX10_liveBytes_37 : decode cX10_liveBytes 37 = .ok (.iinc 4 1, 3) := by decide +kernel
theorem dX10_liveBytes_40 : decode cX10_liveBytes 40 = .ok (.goto (-35), 3) := by decide +kernel
theorem dX10_liveBytes_43 : decode cX10_liveBytes 43 = .ok (.iload_n 3, 1) := by decide +kernel
theorem dX10_liveBytes_44 : decode cX10_liveBytes 44 = .ok (.ireturn, 1) := by decide +kernel
abbrev MX10_liveBytes : MI := (RX10, cX10_liveBytes, 5, 4, false)
def lcX10_liveBytes_1 : Ex Bool := (ltI (lvI 4) (lvI 2))
def lbX10_liveBytes_1 : St := (forB (lsI 3 (addI (lvI 3) (iteX (eqI (calX decI (ckV 5 1) mX5_at (agC va_rf (getR 10 8 (lvR 0)) (agC Value.int (lvI 4) agN))) (ciI (iI 1))) (calX decI (ckV 10 1) mX10_lengthAt (agC va_rf (lvR 0) (agC Value.int (lvI 4) agN))) (ciI (iI 0))))) (incI 4 (iI 1)))
def bX10_liveBytes : St := (seqS (lsI 3 (ciI (iI 0))) (seqS (scS 4 (seqS (lsI 4 (lvI 1)) (whileS lcX10_liveBytes_1 lbX10_liveBytes_1))) (retI (lvI 3))))
theorem jX10_liveBytes : JS MX10_liveBytes 0 0 0 45 [] bX10_liveBytes :=
  (JS.seq (pc1 := 2) (JS.is (pc1 := 1) (k := 3) (JX.ic (n := 0) rfl dX10_liveBytes_0) rfl (show 3 < 5 by decide) dX10_liveBytes_1) (JS.seq (pc1 := 43) (JS.sc (JS.seq (pc1 := 5) (JS.is2 (pc1 := 3) (JX.il (k := 1) rfl dX10_liveBytes_2) (show 4 < 5 by decide) dX10_liveBytes_3) (JS.while (l := 43) (lb := 43) (pc1 := 11) (pc2 := 40) (pc3 := 43) (CJ.lt_f (tgt := 43) (pc1 := 7) (pc2 := 8) (JX.il2 dX10_liveBytes_5) (JX.il (k := 2) rfl dX10_liveBytes_7) dX10_liveBytes_8 rfl) (JS.forb (pc1 := 37) (JS.is (pc1 := 36) (k := 3) (JX.iadd (pc1 := 12) (pc2 := 35) (JX.il (k := 3) rfl dX10_liveBytes_11) (JX.ite (l := 34) (pc1 := 25) (pc2 := 31) (pc3 := 35) (lend := 35) (CJ.eq_f (tgt := 34) (pc1 := 21) (pc2 := 22) (JX.call (pc1 := 18) decI_ok (JA.r (JX.getR (pc1 := 13) (c := 10) (k := 8) (i := 55) (JX.al (k := 0) rfl dX10_liveBytes_12) cl10 (by decide) rfl fk10_55 dX10_liveBytes_13) (JA.i (JX.il2 dX10_liveBytes_16) JA.nil)) aX5_at (RunK.V (i := 114) (c := 5) (n := 1) cl5 rfl (CN nX5_at (by decide) (by decide)) gw774 gw595 gw596 dX10_liveBytes_18) (by decide)) (JX.ic (n := 1) rfl dX10_liveBytes_21) dX10_liveBytes_22 rfl) (JX.call (pc1 := 28) decI_ok (JA.r (JX.al (k := 0) rfl dX10_liveBytes_25) (JA.i (JX.il2 dX10_liveBytes_26) JA.nil)) aX10_lengthAt (RunK.V (i := 137) (c := 10) (n := 1) cl10 rfl (CN nX10_lengthAt (by decide) (by decide)) gw813 gw814 gw815 dX10_liveBytes_28) (by decide)) dX10_liveBytes_31 rfl (JX.ic (n := 0) rfl dX10_liveBytes_34) (Or.inl rfl)) dX10_liveBytes_35) rfl (show 3 < 5 by decide) dX10_liveBytes_36) (JS.inc (n := 1) rfl (show 4 < 5 by decide) dX10_liveBytes_37)) dX10_liveBytes_40 rfl (Or.inl rfl) (Or.inl rfl)))) (JS.retI (pc1 := 44) (JX.il (k := 3) rfl dX10_liveBytes_43) dX10_liveBytes_44)))
def mX10_liveBytes : MS := runM 5 (some (.int)) bX10_liveBytes
theorem aX10_liveBytes : MA yX10_liveBytes cX10_liveBytes 5 (some (.int)) 4 mX10_liveBytes := MA.of (plainFor_of_name (by decide)) jX10_liveBytes
theorem eX10_liveBytes (a0 : Nat) (a1 : Int32) (a2 : Int32) (h : AH) : mX10_liveBytes [.ref a0, .int a1, .int a2] h = (bX10_liveBytes [.val (.ref a0), .val (.int a1), .val (.int a2), .unset, .unset] h).bind (finM (some (.int))) := rfl
/-! Vault.isMarkedForCleaning -/
theorem dX10_isMarkedForCleaning_0 : decode cX10_isMarkedForCleaning 0 = .ok (.aload_n 0, 1) := by decide +kernel
theorem dX10_isMarkedForCleaning_1 : decode cX10_isMarkedForCleaning 1 = .ok (.aload_n 0, 1) := by decide +kernel
theorem dX10_isMarkedForCleaning_2 : decode cX10_isMarkedForCleaning 2 = .ok (.getfield 64, 3) := by decide +kernel
theorem dX10_isMarkedForCleaning_5 : decode cX10_isMarkedForCleaning 5 = .ok (.getfield 204, 3) := by decide +kernel
theorem dX10_isMarkedForCleaning_8 : decode cX10_isMarkedForCleaning 8 = .ok (.iload_n 1, 1) := by decide +kernel
theorem dX10_isMarkedForCleaning_9 : decode cX10_isMarkedForCleaning 9 = .ok (.invokevirtual 114, 3) := by decide +kernel
theorem dX10_isMarkedForCleaning_12 : decode cX10_isMarkedForCleaning 12 = .ok (.aload_n 0, 1) := by decide +kernel
theorem dX10_isMarkedForCleaning_13 : decode cX10_isMarkedForCleaning 13 = .ok (.getfield 64, 3) := by decide +kernel
theorem dX10_isMarkedForCleaning_16 : decode cX10_isMarkedForCleaning 16 = .ok (.iload_n 1, 1) := by decide +kernel
theorem dX10_isMarkedForCleaning_17 : decode cX10_isMarkedForCleaning 17 = .ok (.invokevirtual 207, 3) := by decide +kernel
theorem dX10_isMarkedForCleaning_20 : decode cX10_isMarkedForCleaning 20 = .ok (.invokevirtual 201, 3) := by decide +kernel
theorem dX10_isMarkedForCleaning_23 : decode cX10_isMarkedForCleaning 23 = .ok (.istore_n 2, 1) := by decide +kernel
theorem dX10_isMarkedForCleaning_24 : decode cX10_isMarkedForCleaning 24 = .ok (.aload_n 0, 1) := by decide +kernel
theorem dX10_isMarkedForCleaning_25 : decode cX10_isMarkedForCleaning 25 = .ok (.getfield 64, 3) := by decide +kernel
theorem dX10_isMarkedForCleaning_28 : decode cX10_isMarkedForCleaning 28 = .ok (.getfield 291, 3) := by decide +kernel
theorem dX10_isMarkedForCleaning_31 : decode cX10_isMarkedForCleaning 31 = .ok (.iload_n 1, 1) := by decide +kernel
theorem dX10_isMarkedForCleaning_32 : decode cX10_isMarkedForCleaning 32 = .ok (.invokevirtual 114, 3) := by decide +kernel
theorem dX10_isMarkedForCleaning_35 : decode cX10_isMarkedForCleaning 35 = .ok (.iload_n 2, 1) := by decide +kernel
theorem dX10_isMarkedForCleaning_36 : decode cX10_isMarkedForCleaning 36 = .ok (.isub, 1) := by decide +kernel
theorem dX10_isMarkedForCleaning_37 : decode cX10_isMarkedForCleaning 37 = .ok (.istore_n 3, 1) := by decide +kernel
theorem dX10_isMarkedForCleaning_38 : decode cX10_isMarkedForCleaning 38 = .ok (.aload_n 0, 1) := by decide +kernel
theorem dX10_isMarkedForCleaning_39 : decode cX10_isMarkedForCleaning 39 = .ok (.getfield 12, 3) := by decide +kernel
theorem dX10_isMarkedForCleaning_42 : decode cX10_isMarkedForCleaning 42 = .ok (.aload_n 0, 1) := by decide +kernel
theorem dX10_isMarkedForCleaning_43 : decode cX10_isMarkedForCleaning 43 = .ok (.getfield 64, 3) := by decide +kernel
theorem dX10_isMarkedForCleaning_46 : decode cX10_isMarkedForCleaning 46 = .ok (.getfield 150, 3) := by decide +kernel
theorem dX10_isMarkedForCleaning_49 : decode cX10_isMarkedForCleaning 49 = .ok (.iload_n 2, 1) := by decide +kernel
theorem dX10_isMarkedForCleaning_50 : decode cX10_isMarkedForCleaning 50 = .ok (.iload_n 3, 1) := by decide +kernel
theorem dX10_isMarkedForCleaning_51 : decode cX10_isMarkedForCleaning 51 = .ok (.aload_n 0, 1) := by decide +kernel
theorem dX10_isMarkedForCleaning_52 : decode cX10_isMarkedForCleaning 52 = .ok (.getfield 64, 3) := by decide +kernel
theorem dX10_isMarkedForCleaning_55 : decode cX10_isMarkedForCleaning 55 = .ok (.getfield 150, 3) := by decide +kernel
theorem dX10_isMarkedForCleaning_58 : decode cX10_isMarkedForCleaning 58 = .ok (.aload_n 0, 1) := by decide +kernel
theorem dX10_isMarkedForCleaning_59 : decode cX10_isMarkedForCleaning 59 = .ok (.getfield 64, 3) := by decide +kernel
theorem dX10_isMarkedForCleaning_62 : decode cX10_isMarkedForCleaning 62 = .ok (.getfield 219, 3) := by decide +kernel
theorem dX10_isMarkedForCleaning_65 : decode cX10_isMarkedForCleaning 65 = .ok (.iload_n 1, 1) := by decide +kernel
theorem dX10_isMarkedForCleaning_66 : decode cX10_isMarkedForCleaning 66 = .ok (.invokevirtual 114, 3) := by decide +kernel
theorem dX10_isMarkedForCleaning_69 : decode cX10_isMarkedForCleaning 69 = .ok (.isub, 1) := by decide +kernel
theorem dX10_isMarkedForCleaning_70 : decode cX10_isMarkedForCleaning 70 = .ok (.invokevirtual 294, 3) := by decide +kernel
theorem dX10_isMarkedForCleaning_73 : decode cX10_isMarkedForCleaning 73 = .ok (.ireturn, 1) := by decide +kernel
abbrev MX10_isMarkedForCleaning : MI := (RX10, cX10_isMarkedForCleaning, 4, 5, false)
def bX10_isMarkedForCleaning : St := (seqS (lsI 2 (calX decI (ckV 10 2) mX10_liveBytes (agC va_rf (lvR 0) (agC Value.int (calX decI (ckV 5 1) mX5_at (agC va_rf (getR 9 3 (getR 10 10 (lvR 0))) (agC Value.int (lvI 1) agN))) (agC Value.int (calX decI (ckV 9 1) mX9_boxEnd (agC va_rf (getR 10 10 (lvR 0)) (agC Value.int (lvI 1) agN))) agN))))) (seqS (lsI 3 (subI (calX decI (ckV 5 1) mX5_at (agC va_rf (getR 9 4 (getR 10 10 (lvR 0))) (agC Value.int (lvI 1) agN))) (lvI 2))) (retI (calX decI (ckV 6 4) mX6_isForCleaning (agC va_rf (getR 10 0 (lvR 0)) (agC Value.int (getI 9 10 (getR 10 10 (lvR 0))) (agC Value.int (lvI 2) (agC Value.int (lvI 3) (agC Value.int (subI (getI 9 10 (getR 10 10 (lvR 0))) (calX decI (ckV 5 1) mX5_at (agC va_rf (getR 9 5 (getR 10 10 (lvR 0))) (agC Value.int (lvI 1) agN)))) agN)))))))))
theorem jX10_isMarkedForCleaning : JS MX10_isMarkedForCleaning 0 0 0 74 [] bX10_isMarkedForCleaning :=
  (JS.seq (pc1 := 24) (JS.is (pc1 := 23) (k := 2) (JX.call (pc1 := 20) decI_ok (JA.r (JX.al (k := 0) rfl dX10_isMarkedForCleaning_0) (JA.i (JX.call (pc1 := 9) decI_ok (JA.r (JX.getR (pc1 := 5) (c := 9) (k := 3) (i := 204) (JX.getR (pc1 := 2) (c := 10) (k := 10) (i := 64) (JX.al (k := 0) rfl dX10_isMarkedForCleaning_1) cl10 (by decide) rfl fk10_64 dX10_isMarkedForCleaning_2) cl9 (by decide) rfl fk10_204 dX10_isMarkedForCleaning_5) (JA.i (JX.il (k := 1) rfl dX10_isMarkedForCleaning_8) JA.nil)) aX5_at (RunK.V (i := 114) (c := 5) (n := 1) cl5 rfl (CN nX5_at (by decide) (by decide)) gw774 gw595 gw596 dX10_isMarkedForCleaning_9) (by decide)) (JA.i (JX.call (pc1 := 17) decI_ok (JA.r (JX.getR (pc1 := 13) (c := 10) (k := 10) (i := 64) (JX.al (k := 0) rfl dX10_isMarkedForCleaning_12) cl10 (by decide) rfl fk10_64 dX10_isMarkedForCleaning_13) (JA.i (JX.il (k := 1) rfl dX10_isMarkedForCleaning_16) JA.nil)) aX9_boxEnd (RunK.V (i := 207) (c := 9) (n := 1) cl9 rfl (CN nX9_boxEnd (by decide) (by decide)) gw845 gw836 gw837 dX10_isMarkedForCleaning_17) (by decide)) JA.nil))) aX10_liveBytes (RunK.V (i := 201) (c := 10) (n := 2) cl10 rfl (CN nX10_liveBytes (by decide) (by decide)) gw854 gw856 gs32 dX10_isMarkedForCleaning_20) (by decide)) rfl (show 2 < 4 by decide) dX10_isMarkedForCleaning_23) (JS.seq (pc1 := 38) (JS.is (pc1 := 37) (k := 3) (JX.isub (pc1 := 35) (pc2 := 36) (JX.call (pc1 := 32) decI_ok (JA.r (JX.getR (pc1 := 28) (c := 9) (k := 4) (i := 291) (JX.getR (pc1 := 25) (c := 10) (k := 10) (i := 64) (JX.al (k := 0) rfl dX10_isMarkedForCleaning_24) cl10 (by decide) rfl fk10_64 dX10_isMarkedForCleaning_25) cl9 (by decide) rfl fk10_291 dX10_isMarkedForCleaning_28) (JA.i (JX.il (k := 1) rfl dX10_isMarkedForCleaning_31) JA.nil)) aX5_at (RunK.V (i := 114) (c := 5) (n := 1) cl5 rfl (CN nX5_at (by decide) (by decide)) gw774 gw595 gw596 dX10_isMarkedForCleaning_32) (by decide)) (JX.il (k := 2) rfl dX10_isMarkedForCleaning_35) dX10_isMarkedForCleaning_36) rfl (show 3 < 4 by decide) dX10_isMarkedForCleaning_37) (JS.retI (pc1 := 73) (JX.call (pc1 := 70) decI_ok (JA.r (JX.getR (pc1 := 39) (c := 10) (k := 0) (i := 12) (JX.al (k := 0) rfl dX10_isMarkedForCleaning_38) cl10 (by decide) rfl fk10_12 dX10_isMarkedForCleaning_39) (JA.i (JX.getI (pc1 := 46) (c := 9) (k := 10) (i := 150) (JX.getR (pc1 := 43) (c := 10) (k := 10) (i := 64) (JX.al (k := 0) rfl dX10_isMarkedForCleaning_42) cl10 (by decide) rfl fk10_64 dX10_isMarkedForCleaning_43) cl9 (by decide) rfl fk10_150 dX10_isMarkedForCleaning_46) (JA.i (JX.il (k := 2) rfl dX10_isMarkedForCleaning_49) (JA.i (JX.il (k := 3) rfl dX10_isMarkedForCleaning_50) (JA.i (JX.isub (pc1 := 58) (pc2 := 69) (JX.getI (pc1 := 55) (c := 9) (k := 10) (i := 150) (JX.getR (pc1 := 52) (c := 10) (k := 10) (i := 64) (JX.al (k := 0) rfl dX10_isMarkedForCleaning_51) cl10 (by decide) rfl fk10_64 dX10_isMarkedForCleaning_52) cl9 (by decide) rfl fk10_150 dX10_isMarkedForCleaning_55) (JX.call (pc1 := 66) decI_ok (JA.r (JX.getR (pc1 := 62) (c := 9) (k := 5) (i := 219) (JX.getR (pc1 := 59) (c := 10) (k := 10) (i := 64) (JX.al (k := 0) rfl dX10_isMarkedForCleaning_58) cl10 (by decide) rfl fk10_64 dX10_isMarkedForCleaning_59) cl9 (by decide) rfl fk10_219 dX10_isMarkedForCleaning_62) (JA.i (JX.il (k := 1) rfl dX10_isMarkedForCleaning_65) JA.nil)) aX5_at (RunK.V (i := 114) (c := 5) (n := 1) cl5 rfl (CN nX5_at (by decide) (by decide)) gw774 gw595 gw596 dX10_isMarkedForCleaning_66) (by decide)) dX10_isMarkedForCleaning_69) JA.nil))))) aX6_isForCleaning (RunK.V (i := 294) (c := 6) (n := 4) cl6 rfl (CN nX6_isForCleaning (by decide) (by decide)) gw858 gw859 gw860 dX10_isMarkedForCleaning_70) (by decide)) dX10_isMarkedForCleaning_73)))
def mX10_isMarkedForCleaning : MS := runM 4 (some (.boolean)) bX10_isMarkedForCleaning
theorem aX10_isMarkedForCleaning : MA yX10_isMarkedForCleaning cX10_isMarkedForCleaning 4 (some (.boolean)) 5 mX10_isMarkedForCleaning := MA.of (plainFor_of_name (by decide)) jX10_isMarkedForCleaning
theorem eX10_isMarkedForCleaning (a0 : Nat) (a1 : Int32) (h : AH) : mX10_isMarkedForCleaning [.ref a0, .int a1] h = (bX10_isMarkedForCleaning [.val (.ref a0), .val (.int a1), .unset, .unset] h).bind (finM (some (.boolean))) := rfl
/-! Vault.isForCleaning -/
theorem dX10_isForCleaning_0 : decode cX10_isForCleaning 0 = .ok (.aload_n 0, 1) := by decide +kernel
theorem dX10_isForCleaning_1 : decode cX10_isForCleaning 1 = .ok (.iconst 0, 1) := by decide +kernel
theorem dX10_isForCleaning_2 : decode cX10_isForCleaning 2 = .ok (.invokevirtual 195, 3) := by decide +kernel
theorem dX10_isForCleaning_5 : decode cX10_isForCleaning 5 = .ok (.aload_n 0, 1) := by decide +kernel
theorem dX10_isForCleaning_6 : decode cX10_isForCleaning 6 = .ok (.iload_n 1, 1) := by decide +kernel
theorem dX10_isForCleaning_7 : decode cX10_isForCleaning 7 = .ok (.invokevirtual 288, 3) := by decide +kernel
theorem dX10_isForCleaning_10 : decode cX10_isForCleaning 10 = .ok (.ireturn, 1) := by decide +kernel
abbrev MX10_isForCleaning : MI := (RX10, cX10_isForCleaning, 2, 6, false)
def bX10_isForCleaning : St := (seqS (calS (ckV 10 1) mX10_markLive (agC va_rf (lvR 0) (agC Value.int (ciI (iI 0)) agN))) (retI (calX decI (ckV 10 1) mX10_isMarkedForCleaning (agC va_rf (lvR 0) (agC Value.int (lvI 1) agN)))))
theorem jX10_isForCleaning : JS MX10_isForCleaning 0 0 0 11 [] bX10_isForCleaning :=
  (JS.seq (pc1 := 5) (JS.call (pc1 := 2) (JA.r (JX.al (k := 0) rfl dX10_isForCleaning_0) (JA.i (JX.ic (n := 0) rfl dX10_isForCleaning_1) JA.nil)) aX10_markLive (RunK.V (i := 195) (c := 10) (n := 1) cl10 rfl (CN nX10_markLive (by decide) (by decide)) gw784 gw786 gs29 dX10_isForCleaning_2)) (JS.retI (pc1 := 10) (JX.call (pc1 := 7) decI_ok (JA.r (JX.al (k := 0) rfl dX10_isForCleaning_5) (JA.i (JX.il (k := 1) rfl dX10_isForCleaning_6) JA.nil)) aX10_isMarkedForCleaning (RunK.V (i := 288) (c := 10) (n := 1) cl10 rfl (CN nX10_isMarkedForCleaning (by decide) (by decide)) gw850 gw852 gs31 dX10_isForCleaning_7) (by decide)) dX10_isForCleaning_10))
def mX10_isForCleaning : MS := runM 2 (some (.boolean)) bX10_isForCleaning
theorem aX10_isForCleaning : MA yX10_isForCleaning cX10_isForCleaning 2 (some (.boolean)) 6 mX10_isForCleaning := MA.of (plainFor_of_name (by decide)) jX10_isForCleaning
theorem eX10_isForCleaning (a0 : Nat) (a1 : Int32) (h : AH) : mX10_isForCleaning [.ref a0, .int a1] h = (bX10_isForCleaning [.val (.ref a0), .val (.int a1)] h).bind (finM (some (.boolean))) := rfl
/-! PieceStore.box -/
theorem dX11_box_0 : decode cX11_box 0 = .ok (.iload_n 1, 1) := by decide +kernel
theorem dX11_box_1 : decode cX11_box 1 = .ok (.ifCond .lt 20, 3) := by decide +kernel
theorem dX11_box_4 : decode cX11_box 4 = .ok (.iload_n 1, 1) := by decide +kernel
theorem dX11_box_5 : decode cX11_box 5 = .ok (.aload_n 0, 1) := by decide +kernel
theorem dX11_box_6 : decode cX11_box 6 = .ok (.getfield 29, 3) := by decide +kernel
theorem dX11_box_9 : decode cX11_box 9 = .ok (.getfield 112, 3) := by decide +kernel
theorem dX11_box_12 : decode cX11_box 12 = .ok (.getfield 124, 3) := by decide +kernel
theorem dX11_box_15 : decode cX11_box 15 = .ok (.invokevirtual 69, 3) := by decide +kernel
theorem dX11_box_18 : decode cX11_box 18 = .ok (.if_icmp .lt 5, 3) := by decide +kernel
theorem dX11_box_21 : decode cX11_box 21 = .ok (.iconst (-1), 1) := by decide +kernel
theorem dX11_box_22 : decode cX11_box 22 = .ok (.ireturn, 1) := by decide +kernel
theorem dX11_box_23 : decode cX11_box 23 = .ok (.iload_n 2, 1) := by decide +kernel
theorem dX11_box_24 : decode cX11_box 24 = .ok (.tableswitch 149 0 5 #[40, 55, 82, 91, 117, 132], 40) := by decide +kernel
theorem dX11_box_64 : decode cX11_box 64 = .ok (.aload_n 0, 1) := by decide +kernel
theorem dX11_box_65 : decode cX11_box 65 = .ok (.getfield 29, 3) := by decide +kernel
theorem dX11_box_68 : decode cX11_box 68 = .ok (.getfield 112, 3) := by decide +kernel
theorem dX11_box_71 : decode cX11_box 71 = .ok (.getfield 127, 3) := by decide +kernel
theorem dX11_box_74 : decode cX11_box 74 = .ok (.iload_n 1, 1) := by decide +kernel
theorem dX11_box_75 : decode cX11_box 75 = .ok (.invokevirtual 161, 3) := by decide +kernel
theorem dX11_box_78 : decode cX11_box 78 = .ok (.ireturn, 1) := by decide +kernel
theorem dX11_box_79 : decode cX11_box 79 = .ok (.aload_n 0, 1) := by decide +kernel
theorem dX11_box_80 : decode cX11_box 80 = .ok (.getfield 29, 3) := by decide +kernel
theorem dX11_box_83 : decode cX11_box 83 = .ok (.getfield 112, 3) := by decide +kernel
theorem dX11_box_86 : decode cX11_box 86 = .ok (.iload_n 1, 1) := by decide +kernel
theorem dX11_box_87 : decode cX11_box 87 = .ok (.invokevirtual 188, 3) := by decide +kernel
theorem dX11_box_90 : decode cX11_box 90 = .ok (.aload_n 0, 1) := by decide +kernel
theorem dX11_box_91 : decode cX11_box 91 = .ok (.getfield 29, 3) := by decide +kernel
theorem dX11_box_94 : decode cX11_box 94 = .ok (.getfield 112, 3) := by decide +kernel
theorem dX11_box_97 : decode cX11_box 97 = .ok (.getfield 182, 3) := by decide +kernel
theorem dX11_box_100 : decode cX11_box 100 = .ok (.iload_n 1, 1) := by decide +kernel
theorem dX11_box_101 : decode cX11_box 101 = .ok (.invokevirtual 161, 3) := by decide +kernel
theorem dX11_box_104 : decode cX11_box 104 = .ok (.isub, 1) := by decide +kernel
theorem dX11_box_105 : decode cX11_box 105 = .ok (.ireturn, 1) := by decide +kernel
theorem dX11_box_106 : decode cX11_box 106 = .ok (.aload_n 0, 1) := by decide +kernel
theorem dX11_box_107 : decode cX11_box 107 = .ok (.getfield 29, 3) := by decide +kernel
theorem dX11_box_110 : decode cX11_box 110 = .ok (.iload_n 1, 1) := by decide +kernel
theorem dX11_box_111 : decode cX11_box 111 = .ok (.invokevirtual 191, 3) := by decide +kernel
theorem dX11_box_114 : decode cX11_box 114 = .ok (.ireturn, 1) := by decide +kernel
theorem dX11_box_115 : decode cX11_box 115 = .ok (.aload_n 0, 1) := by decide +kernel
theorem dX11_box_116 : decode cX11_box 116 = .ok (.getfield 29, 3) := by decide +kernel
theorem dX11_box_119 : decode cX11_box 119 = .ok (.getfield 112, 3) := by decide +kernel
theorem dX11_box_122 : decode cX11_box 122 = .ok (.getfield 136, 3) := by decide +kernel
theorem dX11_box_125 : decode cX11_box 125 = .ok (.aload_n 0, 1) := by decide +kernel
theorem dX11_box_126 : decode cX11_box 126 = .ok (.getfield 29, 3) := by decide +kernel
theorem dX11_box_129 : decode cX11_box 129 = .ok (.getfield 112, 3) := by decide +kernel
theorem dX11_box_132 : decode cX11_box 132 = .ok (.getfield 124, 3) := by decide +kernel
theorem dX11_box_135 : decode cX11_box 135 = .ok (.iload_n 1, 1) := by decide +kernel
theorem dX11_box_136 : decode cX11_box 136 = .ok (.invokevirtual 161, 3) := by decide +kernel
theorem dX11_box_139 : decode cX11_box 139 = .ok (.isub, 1) := by decide +kernel
theorem dX11_box_140 : decode cX11_box 140 = .ok (.ireturn, 1) := by decide +kernel
theorem dX11_box_141 : decode cX11_box 141 = .ok (.aload_n 0, 1) := by decide +kernel
theorem dX11_box_142 : decode cX11_box 142 = .ok (.getfield 29, 3) := by decide +kernel
theorem dX11_box_145 : decode cX11_box 145 = .ok (.getfield 112, 3) := by decide +kernel
theorem dX11_box_148 : decode cX11_box 148 = .ok (.getfield 194, 3) := by decide +kernel
theorem dX11_box_151 : decode cX11_box 151 = .ok (.iload_n 1, 1) := by decide +kernel
theorem dX11_box_152 : decode cX11_box 152 = .ok (.invokevirtual 161, 3) := by decide +kernel
theorem dX11_box_155 : decode cX11_box 155 = .ok (.ireturn, 1) := by decide +kernel
theorem dX11_box_156 : decode cX11_box 156 = .ok (.aload_n 0, 1) := by decide +kernel
theorem dX11_box_157 : decode cX11_box 157 = .ok (.getfield 29, 3) := by decide +kernel
theorem dX11_box_160 : decode cX11_box 160 = .ok (.iload_n 1, 1) := by decide +kernel
theorem dX11_box_161 : decode cX11_box 161 = .ok (.invokevirtual 197, 3) := by decide +kernel
theorem dX11_box_164 : decode cX11_box 164 = .ok (.ifCond .eq 7, 3) := by decide +kernel
theorem dX11_box_167 : decode cX11_box 167 = .ok (.iconst 1, 1) := by decide +kernel
theorem dX11_box_168 : decode cX11_box 168 = .ok (.goto 4, 3) := by decide +kernel
theorem dX11_box_171 : decode cX11_box 171 = .ok (.iconst 0, 1) := by decide +kernel
theorem dX11_box_172 : decode cX11_box 172 = .ok (.ireturn, 1) := by decide +kernel
theorem dX11_box_173 : decode cX11_box 173 = .ok (.iconst (-1), 1) := by decide +kernel
theorem dX11_box_174 : decode cX11_box 174 = .ok (.ireturn, 1) := by decide +kernel
abbrev MX11_box : MI := (RX11, cX11_box, 3, 7, false)
def swX11_box_1 (x : Int32) : St := if x = iI 0 then (retI (calX decI (ckV 5 1) mX5_at (agC va_rf (getR 9 4 (getR 10 10 (getR 11 3 (lvR 0)))) (agC Value.int (lvI 1) agN)))) else if x = iI 1 then (retI (subI (calX decI (ckV 9 1) mX9_boxEnd (agC va_rf (getR 10 10 (getR 11 3 (lvR 0))) (agC Value.int (lvI 1) agN))) (calX decI (ckV 5 1) mX5_at (agC va_rf (getR 9 3 (getR 10 10 (getR 11 3 (lvR 0)))) (agC Value.int (lvI 1) agN))))) else if x = iI 2 then (retI (calX decI (ckV 10 1) mX10_countLiveIn (agC va_rf (getR 11 3 (lvR 0)) (agC Value.int (lvI 1) agN)))) else if x = iI 3 then (retI (subI (getI 9 10 (getR 10 10 (getR 11 3 (lvR 0)))) (calX decI (ckV 5 1) mX5_at (agC va_rf (getR 9 5 (getR 10 10 (getR 11 3 (lvR 0)))) (agC Value.int (lvI 1) agN))))) else if x = iI 4 then (retI (calX decI (ckV 5 1) mX5_at (agC va_rf (getR 9 6 (getR 10 10 (getR 11 3 (lvR 0)))) (agC Value.int (lvI 1) agN)))) else if x = iI 5 then (retI (iteX (ne0 (calX decI (ckV 10 1) mX10_isForCleaning (agC va_rf (getR 11 3 (lvR 0)) (agC Value.int (lvI 1) agN)))) (ciI (iI 1)) (ciI (iI 0)))) else (retI (ciI (iI (-1))))
def bX11_box : St := (seqS (ifS (orX (lt0 (lvI 1)) (geI (lvI 1) (calX decI (ckV 5 0) mX5_size (agC va_rf (getR 9 5 (getR 10 10 (getR 11 3 (lvR 0)))) agN)))) (retI (ciI (iI (-1))))) (swS (lvI 2) swX11_box_1))
theorem swX11_box_1_ok : ∀ x, ∃ tgt pcx, TSw MX11_box.2.1 24 x tgt ∧ JS MX11_box 175 0 tgt pcx [] (swX11_box_1 x) ∧ Dead (swX11_box_1 x) := by
  intro x
  unfold swX11_box_1
  by_cases h0 : x = iI 0
  · subst h0
    rw [if_pos rfl]
    refine ⟨64, 79, ?_, (JS.retI (pc1 := 78) (JX.call (pc1 := 75) decI_ok (JA.r (JX.getR (pc1 := 71) (c := 9) (k := 4) (i := 127) (JX.getR (pc1 := 68) (c := 10) (k := 10) (i := 112) (JX.getR (pc1 := 65) (c := 11) (k := 3) (i := 29) (JX.al (k := 0) rfl dX11_box_64) cl11 (by decide) rfl fk11_29 dX11_box_65) cl10 (by decide) rfl fk11_112 dX11_box_68) cl9 (by decide) rfl fk11_127 dX11_box_71) (JA.i (JX.il (k := 1) rfl dX11_box_74) JA.nil)) aX5_at (RunK.V (i := 161) (c := 5) (n := 1) cl5 rfl (CN nX5_at (by decide) (by decide)) gw594 gw595 gw596 dX11_box_75) (by decide)) dX11_box_78), dead_retI⟩
    exact TSw.tab_in (off := 40) dX11_box_24 (by decide) (by decide) rfl rfl
  by_cases h1 : x = iI 1
  · subst h1
    rw [if_neg (by decide)]
    rw [if_pos rfl]
    refine ⟨79, 106, ?_, (JS.retI (pc1 := 105) (JX.isub (pc1 := 90) (pc2 := 104) (JX.call (pc1 := 87) decI_ok (JA.r (JX.getR (pc1 := 83) (c := 10) (k := 10) (i := 112) (JX.getR (pc1 := 80) (c := 11) (k := 3) (i := 29) (JX.al (k := 0) rfl dX11_box_79) cl11 (by decide) rfl fk11_29 dX11_box_80) cl10 (by decide) rfl fk11_112 dX11_box_83) (JA.i (JX.il (k := 1) rfl dX11_box_86) JA.nil)) aX9_boxEnd (RunK.V (i := 188) (c := 9) (n := 1) cl9 rfl (CN nX9_boxEnd (by decide) (by decide)) gw835 gw836 gw837 dX11_box_87) (by decide)) (JX.call (pc1 := 101) decI_ok (JA.r (JX.getR (pc1 := 97) (c := 9) (k := 3) (i := 182) (JX.getR (pc1 := 94) (c := 10) (k := 10) (i := 112) (JX.getR (pc1 := 91) (c := 11) (k := 3) (i := 29) (JX.al (k := 0) rfl dX11_box_90) cl11 (by decide) rfl fk11_29 dX11_box_91) cl10 (by decide) rfl fk11_112 dX11_box_94) cl9 (by decide) rfl fk11_182 dX11_box_97) (JA.i (JX.il (k := 1) rfl dX11_box_100) JA.nil)) aX5_at (RunK.V (i := 161) (c := 5) (n := 1) cl5 rfl (CN nX5_at (by decide) (by decide)) gw594 gw595 gw596 dX11_box_101) (by decide)) dX11_box_104) dX11_box_105), dead_retI⟩
    exact TSw.tab_in (off := 55) dX11_box_24 (by decide) (by decide) rfl rfl
  by_cases h2 : x = iI 2
  · subst h2
    rw [if_neg (by decide)]
    rw [if_neg (by decide)]
    rw [if_pos rfl]
    refine ⟨106, 115, ?_, (JS.retI (pc1 := 114) (JX.call (pc1 := 111) decI_ok (JA.r (JX.getR (pc1 := 107) (c := 11) (k := 3) (i := 29) (JX.al (k := 0) rfl dX11_box_106) cl11 (by decide) rfl fk11_29 dX11_box_107) (JA.i (JX.il (k := 1) rfl dX11_box_110) JA.nil)) aX10_countLiveIn (RunK.V (i := 191) (c := 10) (n := 1) cl10 rfl (CN nX10_countLiveIn (by decide) (by decide)) gw841 gw842 gw843 dX11_box_111) (by decide)) dX11_box_114), dead_retI⟩
    exact TSw.tab_in (off := 82) dX11_box_24 (by decide) (by decide) rfl rfl
  by_cases h3 : x = iI 3
  · subst h3
    rw [if_neg (by decide)]
    rw [if_neg (by decide)]
    rw [if_neg (by decide)]
    rw [if_pos rfl]
    refine ⟨115, 141, ?_, (JS.retI (pc1 := 140) (JX.isub (pc1 := 125) (pc2 := 139) (JX.getI (pc1 := 122) (c := 9) (k := 10) (i := 136) (JX.getR (pc1 := 119) (c := 10) (k := 10) (i := 112) (JX.getR (pc1 := 116) (c := 11) (k := 3) (i := 29) (JX.al (k := 0) rfl dX11_box_115) cl11 (by decide) rfl fk11_29 dX11_box_116) cl10 (by decide) rfl fk11_112 dX11_box_119) cl9 (by decide) rfl fk11_136 dX11_box_122) (JX.call (pc1 := 136) decI_ok (JA.r (JX.getR (pc1 := 132) (c := 9) (k := 5) (i := 124) (JX.getR (pc1 := 129) (c := 10) (k := 10) (i := 112) (JX.getR (pc1 := 126) (c := 11) (k := 3) (i := 29) (JX.al (k := 0) rfl dX11_box_125) cl11 (by decide) rfl fk11_29 dX11_box_126) cl10 (by decide) rfl fk11_112 dX11_box_129) cl9 (by decide) rfl fk11_124 dX11_box_132) (JA.i (JX.il (k := 1) rfl dX11_box_135) JA.nil)) aX5_at (RunK.V (i := 161) (c := 5) (n := 1) cl5 rfl (CN nX5_at (by decide) (by decide)) gw594 gw595 gw596 dX11_box_136) (by decide)) dX11_box_139) dX11_box_140), dead_retI⟩
    exact TSw.tab_in (off := 91) dX11_box_24 (by decide) (by decide) rfl rfl
  by_cases h4 : x = iI 4
  · subst h4
    rw [if_neg (by decide)]
    rw [if_neg (by decide)]
    rw [if_neg (by decide)]
    rw [if_neg (by decide)]
    rw [if_pos rfl]
    refine ⟨141, 156, ?_, (JS.retI (pc1 := 155) (JX.call (pc1 := 152) decI_ok (JA.r (JX.getR (pc1 := 148) (c := 9) (k := 6) (i := 194) (JX.getR (pc1 := 145) (c := 10) (k := 10) (i := 112) (JX.getR (pc1 := 142) (c := 11) (k := 3) (i := 29) (JX.al (k := 0) rfl dX11_box_141) cl11 (by decide) rfl fk11_29 dX11_box_142) cl10 (by decide) rfl fk11_112 dX11_box_145) cl9 (by decide) rfl fk11_194 dX11_box_148) (JA.i (JX.il (k := 1) rfl dX11_box_151) JA.nil)) aX5_at (RunK.V (i := 161) (c := 5) (n := 1) cl5 rfl (CN nX5_at (by decide) (by decide)) gw594 gw595 gw596 dX11_box_152) (by decide)) dX11_box_155), dead_retI⟩
    exact TSw.tab_in (off := 117) dX11_box_24 (by decide) (by decide) rfl rfl
  by_cases h5 : x = iI 5
  · subst h5
    rw [if_neg (by decide)]
    rw [if_neg (by decide)]
    rw [if_neg (by decide)]
    rw [if_neg (by decide)]
    rw [if_neg (by decide)]
    rw [if_pos rfl]
    refine ⟨156, 173, ?_, (JS.retI (pc1 := 172) (JX.ite (l := 171) (pc1 := 167) (pc2 := 168) (pc3 := 172) (lend := 172) (CJ.ne0_f (tgt := 171) (pc1 := 164) (JX.call (pc1 := 161) decI_ok (JA.r (JX.getR (pc1 := 157) (c := 11) (k := 3) (i := 29) (JX.al (k := 0) rfl dX11_box_156) cl11 (by decide) rfl fk11_29 dX11_box_157) (JA.i (JX.il (k := 1) rfl dX11_box_160) JA.nil)) aX10_isForCleaning (RunK.V (i := 197) (c := 10) (n := 1) cl10 rfl (CN nX10_isForCleaning (by decide) (by decide)) gw846 gw847 gw848 dX11_box_161) (by decide)) dX11_box_164 rfl) (JX.ic (n := 1) rfl dX11_box_167) dX11_box_168 rfl (JX.ic (n := 0) rfl dX11_box_171) (Or.inl rfl)) dX11_box_172), dead_retI⟩
    exact TSw.tab_in (off := 132) dX11_box_24 (by decide) (by decide) rfl rfl
  rw [if_neg h0]
  rw [if_neg h1]
  rw [if_neg h2]
  rw [if_neg h3]
  rw [if_neg h4]
  rw [if_neg h5]
  refine ⟨173, 175, ?_, (JS.retI (pc1 := 174) (JX.ic (n := (-1)) rfl dX11_box_173) dX11_box_174), dead_retI⟩
  exact TSw.tab_out [0, 1, 2, 3, 4, 5] dX11_box_24 (by decide) (by decide) (by simp [h0, h1, h2, h3, h4, h5]) rfl
theorem jX11_box : JS MX11_box 0 0 0 175 [] bX11_box :=
  (JS.seq (pc1 := 23) (JS.iff (l := 23) (pc1 := 21) (CJ.or_f (l := 21) (pc1 := 4) (CJ.lt0_t (tgt := 21) (pc1 := 1) (JX.il (k := 1) rfl dX11_box_0) dX11_box_1 rfl) (CJ.ge_f (tgt := 23) (pc1 := 5) (pc2 := 18) (JX.il (k := 1) rfl dX11_box_4) (JX.call (pc1 := 15) decI_ok (JA.r (JX.getR (pc1 := 12) (c := 9) (k := 5) (i := 124) (JX.getR (pc1 := 9) (c := 10) (k := 10) (i := 112) (JX.getR (pc1 := 6) (c := 11) (k := 3) (i := 29) (JX.al (k := 0) rfl dX11_box_5) cl11 (by decide) rfl fk11_29 dX11_box_6) cl10 (by decide) rfl fk11_112 dX11_box_9) cl9 (by decide) rfl fk11_124 dX11_box_12) JA.nil) aX5_size (RunK.V (i := 69) (c := 5) (n := 0) cl5 rfl (CN nX5_size (by decide) (by decide)) gw586 gw587 gw588 dX11_box_15) (by decide)) dX11_box_18 rfl) (Or.inl rfl)) (JS.retI (pc1 := 22) (JX.ic (n := (-1)) rfl dX11_box_21) dX11_box_22) (Or.inl rfl)) (JS.sw (lend := 175) (pc1 := 24) (pc2 := 175) (JX.il (k := 2) rfl dX11_box_23) swX11_box_1_ok (Or.inl rfl)))
def mX11_box : MS := runM 3 (some (.int)) bX11_box
theorem aX11_box : MA yX11_box cX11_box 3 (some (.int)) 7 mX11_box := MA.of (plainFor_of_name (by decide)) jX11_box
theorem eX11_box (a0 : Nat) (a1 : Int32) (a2 : Int32) (h : AH) : mX11_box [.ref a0, .int a1, .int a2] h = (bX11_box [.val (.ref a0), .val (.int a1), .val (.int a2)] h).bind (finM (some (.int))) := rfl
/-! Forms.layOut -/
theorem dX3_layOut_0 : decode cX3_layOut 0 = .ok (.iconst 0, 1) := by decide +kernel
theorem dX3_layOut_1 : decode cX3_layOut 1 = .ok (.istore_n 3, 1) := by decide +kernel
theorem dX3_layOut_2 : decode cX3_layOut 2 = .ok (.iload_n 3, 1) := by decide +kernel
theorem dX3_layOut_3 : decode cX3_layOut 3 = .ok (.aload_n 0, 1) := by decide +kernel
theorem dX3_layOut_4 : decode cX3_layOut 4 = .ok (.getfield 21, 3) := by decide +kernel
theorem dX3_layOut_7 : decode cX3_layOut 7 = .ok (.iload_n 1, 1) := by decide +kernel
theorem dX3_layOut_8 : decode cX3_layOut 8 = .ok (.invokevirtual 46, 3) := by decide +kernel
theorem dX3_layOut_11 : decode cX3_layOut 11 = .ok (.if_icmp .ge 30, 3) := by decide +kernel
theorem dX3_layOut_14 : decode cX3_layOut 14 = .ok (.aload_n 2, 1) := by decide +kernel
theorem dX3_layOut_15 : decode cX3_layOut 15 = .ok (.aload_n 0, 1) := by decide +kernel
theorem dX3_layOut_16 : decode cX3_layOut 16 = .ok (.getfield 12, 3) := by decide +kernel
theorem dX3_layOut_19 : decode cX3_layOut 19 = .ok (.aload_n 0, 1) := by decide +kernel
theorem dX3_layOut_20 : decode cX3_layOut 20 = .ok (.getfield 18, 3) := by decide +kernel
theorem dX3_layOut_23 : decode cX3_layOut 23 = .ok (.iload_n 1, 1) := by decide +kernel
theorem dX3_layOut_24 : decode cX3_layOut 24 = .ok (.invokevirtual 46, 3) := by decide +kernel
theorem dX3_layOut_27 : decode cX3_layOut 27 = .ok (.iload_n 3, 1) := by decide +kernel
theorem dX3_layOut_28 : decode cX3_layOut 28 = .ok (.iadd, 1) := by decide +kernel
theorem dX3_layOut_29 : decode cX3_layOut 29 = .ok (.invokevirtual 46, 3) := by decide +kernel
theorem dX3_layOut_32 : decode cX3_layOut 32 = .ok (.invokevirtual 66, 3) := by decide +kernel
theorem dX3_layOut_35 : decode cX3_layOut 35 = .ok (.iinc 3 1, 3) := by decide +kernel
theorem dX3_layOut_38 : decode cX3_layOut 38 = .ok (.goto (-36), 3) := by decide +kernel
theorem dX3_layOut_41 : decode cX3_layOut 41 = .ok (.return_, 1) := by decide +kernel
abbrev MX3_layOut : MI := (RX3, cX3_layOut, 4, 3, false)
def lcX3_layOut_1 : Ex Bool := (ltI (lvI 3) (calX decI (ckV 5 1) mX5_at (agC va_rf (getR 3 2 (lvR 0)) (agC Value.int (lvI 1) agN))))
def lbX3_layOut_1 : St := (forB (calS (ckV 5 1) mX5_add (agC va_rf (lvR 2) (agC Value.int (calX decI (ckV 5 1) mX5_at (agC va_rf (getR 3 0 (lvR 0)) (agC Value.int (addI (calX decI (ckV 5 1) mX5_at (agC va_rf (getR 3 1 (lvR 0)) (agC Value.int (lvI 1) agN))) (lvI 3)) agN))) agN))) (incI 3 (iI 1)))
def bX3_layOut : St := (seqS (scS 3 (seqS (lsI 3 (ciI (iI 0))) (whileS lcX3_layOut_1 lbX3_layOut_1))) retV)
theorem jX3_layOut : JS MX3_layOut 0 0 0 42 [] bX3_layOut :=
  (JS.seq (pc1 := 41) (JS.sc (JS.seq (pc1 := 2) (JS.is (pc1 := 1) (k := 3) (JX.ic (n := 0) rfl dX3_layOut_0) rfl (show 3 < 4 by decide) dX3_layOut_1) (JS.while (l := 41) (lb := 41) (pc1 := 14) (pc2 := 38) (pc3 := 41) (CJ.lt_f (tgt := 41) (pc1 := 3) (pc2 := 11) (JX.il (k := 3) rfl dX3_layOut_2) (JX.call (pc1 := 8) decI_ok (JA.r (JX.getR (pc1 := 4) (c := 3) (k := 2) (i := 21) (JX.al (k := 0) rfl dX3_layOut_3) cl3 (by decide) rfl fk3_21 dX3_layOut_4) (JA.i (JX.il (k := 1) rfl dX3_layOut_7) JA.nil)) aX5_at (RunK.V (i := 46) (c := 5) (n := 1) cl5 rfl (CN nX5_at (by decide) (by decide)) gw905 gw595 gw596 dX3_layOut_8) (by decide)) dX3_layOut_11 rfl) (JS.forb (pc1 := 35) (JS.call (pc1 := 32) (JA.r (JX.al (k := 2) rfl dX3_layOut_14) (JA.i (JX.call (pc1 := 29) decI_ok (JA.r (JX.getR (pc1 := 16) (c := 3) (k := 0) (i := 12) (JX.al (k := 0) rfl dX3_layOut_15) cl3 (by decide) rfl fk3_12 dX3_layOut_16) (JA.i (JX.iadd (pc1 := 27) (pc2 := 28) (JX.call (pc1 := 24) decI_ok (JA.r (JX.getR (pc1 := 20) (c := 3) (k := 1) (i := 18) (JX.al (k := 0) rfl dX3_layOut_19) cl3 (by decide) rfl fk3_18 dX3_layOut_20) (JA.i (JX.il (k := 1) rfl dX3_layOut_23) JA.nil)) aX5_at (RunK.V (i := 46) (c := 5) (n := 1) cl5 rfl (CN nX5_at (by decide) (by decide)) gw905 gw595 gw596 dX3_layOut_24) (by decide)) (JX.il (k := 3) rfl dX3_layOut_27) dX3_layOut_28) JA.nil)) aX5_at (RunK.V (i := 46) (c := 5) (n := 1) cl5 rfl (CN nX5_at (by decide) (by decide)) gw905 gw595 gw596 dX3_layOut_29) (by decide)) JA.nil)) aX5_add (RunK.V (i := 66) (c := 5) (n := 1) cl5 rfl (CN nX5_add (by decide) (by decide)) gw906 gw121 gw122 dX3_layOut_32)) (JS.inc (n := 1) rfl (show 3 < 4 by decide) dX3_layOut_35)) dX3_layOut_38 rfl (Or.inl rfl) (Or.inl rfl)))) (JS.retV dX3_layOut_41))
def mX3_layOut : MS := runM 4 none bX3_layOut
theorem aX3_layOut : MA yX3_layOut cX3_layOut 4 none 3 mX3_layOut := MA.of (plainFor_of_name (by decide)) jX3_layOut
theorem eX3_layOut (a0 : Nat) (a1 : Int32) (a2 : Nat) (h : AH) : mX3_layOut [.ref a0, .int a1, .ref a2] h = (bX3_layOut [.val (.ref a0), .val (.int a1), .val (.ref a2), .unset] h).bind (finM none) := rfl
/-! Vault.layOut -/
theorem dX10_layOut_0 : decode cX10_layOut 0 = .ok (.aload_n 0, 1) := by decide +kernel
theorem dX10_layOut_1 : decode cX10_layOut 1 = .ok (.getfield 21, 3) := by decide +kernel
theorem dX10_layOut_4 : decode cX10_layOut 4 = .ok (.getfield 140, 3) := by decide +kernel
theorem dX10_layOut_7 : decode cX10_layOut 7 = .ok (.invokevirtual 101, 3) := by decide +kernel
theorem dX10_layOut_10 : decode cX10_layOut 10 = .ok (.iconst 0, 1) := by decide +kernel
theorem dX10_layOut_11 : decode cX10_layOut 11 = .ok (.istore_n 2, 1) := by decide +kernel
theorem dX10_layOut_12 : decode cX10_layOut 12 = .ok (.iload_n 2, 1) := by decide +kernel
theorem dX10_layOut_13 : decode cX10_layOut 13 = .ok (.aload_n 0, 1) := by decide +kernel
theorem dX10_layOut_14 : decode cX10_layOut 14 = .ok (.getfield 64, 3) := by decide +kernel
theorem dX10_layOut_17 : decode cX10_layOut 17 = .ok (.getfield 111, 3) := by decide +kernel
theorem dX10_layOut_20 : decode cX10_layOut 20 = .ok (.iload_n 1, 1) := by decide +kernel
theorem dX10_layOut_21 : decode cX10_layOut 21 = .ok (.invokevirtual 114, 3) := by decide +kernel
theorem dX10_layOut_24 : decode cX10_layOut 24 = .ok (.if_icmp .ge 33, 3) := by decide +kernel
theorem dX10_layOut_27 : decode cX10_layOut 27 = .ok (.aload_n 0, 1) := by decide +kernel
theorem dX10_layOut_28 : decode cX10_layOut 28 = .ok (.getfield 28, 3) := by decide +kernel
theorem dX10_layOut_31 : decode cX10_layOut 31 = .ok (.aload_n 0, 1) := by decide +kernel
theorem dX10_layOut_32 : decode cX10_layOut 32 = .ok (.aload_n 0, 1) := by decide +kernel
theorem dX10_layOut_33 : decode cX10_layOut 33 = .ok (.iload_n 1, 1) := by decide +kernel
theorem dX10_layOut_34 : decode cX10_layOut 34 = .ok (.iload_n 2, 1) := by decide +kernel
theorem dX10_layOut_35 : decode cX10_layOut 35 = .ok (.invokevirtual 133, 3) := by decide +kernel
theorem dX10_layOut_38 : decode cX10_layOut 38 = .ok (.invokevirtual 127, 3) := by decide +kernel
theorem dX10_layOut_41 : decode cX10_layOut 41 = .ok (.aload_n 0, 1) := by decide +kernel
theorem dX10_layOut_42 : decode cX10_layOut 42 = .ok (.getfield 21, 3) := by decide +kernel
theorem dX10_layOut_45 : decode cX10_layOut 45 = .ok (.getfield 140, 3) := by decide +kernel
theorem dX10_layOut_48 : decode cX10_layOut 48 = .ok (.invokevirtual 143, 3) := by decide +kernel
theorem dX10_layOut_51 : decode cX10_layOut 51 = .ok (.iinc 2 1, 3) := by decide +kernel
theorem dX10_layOut_54 : decode cX10_layOut 54 = .ok (.goto (-42), 3) := by decide +kernel
theorem dX10_layOut_57 : decode cX10_layOut 57 = .ok (.return_, 1) := by decide +kernel
abbrev MX10_layOut : MI := (RX10, cX10_layOut, 3, 4, false)
def lcX10_layOut_1 : Ex Bool := (ltI (lvI 2) (calX decI (ckV 5 1) mX5_at (agC va_rf (getR 9 9 (getR 10 10 (lvR 0))) (agC Value.int (lvI 1) agN))))
def lbX10_layOut_1 : St := (forB (calS (ckV 3 2) mX3_layOut (agC va_rf (getR 10 2 (lvR 0)) (agC Value.int (calX decI (ckV 10 1) mX10_formAt (agC va_rf (lvR 0) (agC Value.int (calX decI (ckV 10 2) mX10_spotOf (agC va_rf (lvR 0) (agC Value.int (lvI 1) (agC Value.int (lvI 2) agN)))) agN))) (agC va_rf (getR 1 0 (getR 10 1 (lvR 0))) agN)))) (incI 2 (iI 1)))
def bX10_layOut : St := (seqS (calS (ckV 5 0) mX5_clear (agC va_rf (getR 1 0 (getR 10 1 (lvR 0))) agN)) (seqS (scS 2 (seqS (lsI 2 (ciI (iI 0))) (whileS lcX10_layOut_1 lbX10_layOut_1))) retV))
theorem jX10_layOut : JS MX10_layOut 0 0 0 58 [] bX10_layOut :=
  (JS.seq (pc1 := 10) (JS.call (pc1 := 7) (JA.r (JX.getR (pc1 := 4) (c := 1) (k := 0) (i := 140) (JX.getR (pc1 := 1) (c := 10) (k := 1) (i := 21) (JX.al (k := 0) rfl dX10_layOut_0) cl10 (by decide) rfl fk10_21 dX10_layOut_1) cl1 (by decide) rfl fk10_140 dX10_layOut_4) JA.nil) aX5_clear (RunK.V (i := 101) (c := 5) (n := 0) cl5 rfl (CN nX5_clear (by decide) (by decide)) gw420 gw209 gw210 dX10_layOut_7)) (JS.seq (pc1 := 57) (JS.sc (JS.seq (pc1 := 12) (JS.is (pc1 := 11) (k := 2) (JX.ic (n := 0) rfl dX10_layOut_10) rfl (show 2 < 3 by decide) dX10_layOut_11) (JS.while (l := 57) (lb := 57) (pc1 := 27) (pc2 := 54) (pc3 := 57) (CJ.lt_f (tgt := 57) (pc1 := 13) (pc2 := 24) (JX.il (k := 2) rfl dX10_layOut_12) (JX.call (pc1 := 21) decI_ok (JA.r (JX.getR (pc1 := 17) (c := 9) (k := 9) (i := 111) (JX.getR (pc1 := 14) (c := 10) (k := 10) (i := 64) (JX.al (k := 0) rfl dX10_layOut_13) cl10 (by decide) rfl fk10_64 dX10_layOut_14) cl9 (by decide) rfl fk10_111 dX10_layOut_17) (JA.i (JX.il (k := 1) rfl dX10_layOut_20) JA.nil)) aX5_at (RunK.V (i := 114) (c := 5) (n := 1) cl5 rfl (CN nX5_at (by decide) (by decide)) gw774 gw595 gw596 dX10_layOut_21) (by decide)) dX10_layOut_24 rfl) (JS.forb (pc1 := 51) (JS.call (pc1 := 48) (JA.r (JX.getR (pc1 := 28) (c := 10) (k := 2) (i := 28) (JX.al (k := 0) rfl dX10_layOut_27) cl10 (by decide) rfl fk10_28 dX10_layOut_28) (JA.i (JX.call (pc1 := 38) decI_ok (JA.r (JX.al (k := 0) rfl dX10_layOut_31) (JA.i (JX.call (pc1 := 35) decI_ok (JA.r (JX.al (k := 0) rfl dX10_layOut_32) (JA.i (JX.il (k := 1) rfl dX10_layOut_33) (JA.i (JX.il (k := 2) rfl dX10_layOut_34) JA.nil))) aX10_spotOf (RunK.V (i := 133) (c := 10) (n := 2) cl10 rfl (CN nX10_spotOf (by decide) (by decide)) gw793 gw794 gw795 dX10_layOut_35) (by decide)) JA.nil)) aX10_formAt (RunK.V (i := 127) (c := 10) (n := 1) cl10 rfl (CN nX10_formAt (by decide) (by decide)) gw817 gw818 gw819 dX10_layOut_38) (by decide)) (JA.r (JX.getR (pc1 := 45) (c := 1) (k := 0) (i := 140) (JX.getR (pc1 := 42) (c := 10) (k := 1) (i := 21) (JX.al (k := 0) rfl dX10_layOut_41) cl10 (by decide) rfl fk10_21 dX10_layOut_42) cl1 (by decide) rfl fk10_140 dX10_layOut_45) JA.nil))) aX3_layOut (RunK.V (i := 143) (c := 3) (n := 2) cl3 rfl (CN nX3_layOut (by decide) (by decide)) gw901 gw902 gw903 dX10_layOut_48)) (JS.inc (n := 1) rfl (show 2 < 3 by decide) dX10_layOut_51)) dX10_layOut_54 rfl (Or.inl rfl) (Or.inl rfl)))) (JS.retV dX10_layOut_57)))
def mX10_layOut : MS := runM 3 none bX10_layOut
theorem aX10_layOut : MA yX10_layOut cX10_layOut 3 none 4 mX10_layOut := MA.of (plainFor_of_name (by decide)) jX10_layOut
theorem eX10_layOut (a0 : Nat) (a1 : Int32) (h : AH) : mX10_layOut [.ref a0, .int a1] h = (bX10_layOut [.val (.ref a0), .val (.int a1), .unset] h).bind (finM none) := rfl
/-! PieceStore.octet -/
theorem dX11_octet_0 : decode cX11_octet 0 = .ok (.aload_n 0, 1) := by decide +kernel
theorem dX11_octet_1 : decode cX11_octet 1 = .ok (.getfield 29, 3) := by decide +kernel
theorem dX11_octet_4 : decode cX11_octet 4 = .ok (.iload_n 1, 1) := by decide +kernel
theorem dX11_octet_5 : decode cX11_octet 5 = .ok (.invokevirtual 154, 3) := by decide +kernel
theorem dX11_octet_8 : decode cX11_octet 8 = .ok (.ifCond .ne 5, 3) := by decide +kernel
theorem dX11_octet_11 : decode cX11_octet 11 = .ok (.iconst (-1), 1) := by decide +kernel
theorem dX11_octet_12 : decode cX11_octet 12 = .ok (.ireturn, 1) := by decide +kernel
theorem dX11_octet_13 : decode cX11_octet 13 = .ok (.aload_n 0, 1) := by decide +kernel
theorem dX11_octet_14 : decode cX11_octet 14 = .ok (.getfield 29, 3) := by decide +kernel
theorem dX11_octet_17 : decode cX11_octet 17 = .ok (.iload_n 1, 1) := by decide +kernel
theorem dX11_octet_18 : decode cX11_octet 18 = .ok (.invokevirtual 200, 3) := by decide +kernel
theorem dX11_octet_21 : decode cX11_octet 21 = .ok (.aload_n 0, 1) := by decide +kernel
theorem dX11_octet_22 : decode cX11_octet 22 = .ok (.getfield 29, 3) := by decide +kernel
theorem dX11_octet_25 : decode cX11_octet 25 = .ok (.getfield 203, 3) := by decide +kernel
theorem dX11_octet_28 : decode cX11_octet 28 = .ok (.getfield 207, 3) := by decide +kernel
theorem dX11_octet_31 : decode cX11_octet 31 = .ok (.iload_n 2, 1) := by decide +kernel
theorem dX11_octet_32 : decode cX11_octet 32 = .ok (.invokevirtual 161, 3) := by decide +kernel
theorem dX11_octet_35 : decode cX11_octet 35 = .ok (.ireturn, 1) := by decide +kernel
abbrev MX11_octet : MI := (RX11, cX11_octet, 3, 5, false)
def bX11_octet : St := (seqS (ifS (notX (ne0 (calX decI (ckV 10 1) mX10_hasBackup (agC va_rf (getR 11 3 (lvR 0)) (agC Value.int (lvI 1) agN))))) (retI (ciI (iI (-1))))) (seqS (calS (ckV 10 1) mX10_layOut (agC va_rf (getR 11 3 (lvR 0)) (agC Value.int (lvI 1) agN))) (retI (calX decI (ckV 5 1) mX5_at (agC va_rf (getR 1 0 (getR 10 1 (getR 11 3 (lvR 0)))) (agC Value.int (lvI 2) agN))))))
theorem jX11_octet : JS MX11_octet 0 0 0 36 [] bX11_octet :=
  (JS.seq (pc1 := 13) (JS.iff (l := 13) (pc1 := 11) (CJ.not_f (CJ.ne0_t (tgt := 13) (pc1 := 8) (JX.call (pc1 := 5) decI_ok (JA.r (JX.getR (pc1 := 1) (c := 11) (k := 3) (i := 29) (JX.al (k := 0) rfl dX11_octet_0) cl11 (by decide) rfl fk11_29 dX11_octet_1) (JA.i (JX.il (k := 1) rfl dX11_octet_4) JA.nil)) aX10_hasBackup (RunK.V (i := 154) (c := 10) (n := 1) cl10 rfl (CN nX10_hasBackup (by decide) (by decide)) gw808 gw771 gw772 dX11_octet_5) (by decide)) dX11_octet_8 rfl)) (JS.retI (pc1 := 12) (JX.ic (n := (-1)) rfl dX11_octet_11) dX11_octet_12) (Or.inl rfl)) (JS.seq (pc1 := 21) (JS.call (pc1 := 18) (JA.r (JX.getR (pc1 := 14) (c := 11) (k := 3) (i := 29) (JX.al (k := 0) rfl dX11_octet_13) cl11 (by decide) rfl fk11_29 dX11_octet_14) (JA.i (JX.il (k := 1) rfl dX11_octet_17) JA.nil)) aX10_layOut (RunK.V (i := 200) (c := 10) (n := 1) cl10 rfl (CN nX10_layOut (by decide) (by decide)) gw897 gw898 gw899 dX11_octet_18)) (JS.retI (pc1 := 35) (JX.call (pc1 := 32) decI_ok (JA.r (JX.getR (pc1 := 28) (c := 1) (k := 0) (i := 207) (JX.getR (pc1 := 25) (c := 10) (k := 1) (i := 203) (JX.getR (pc1 := 22) (c := 11) (k := 3) (i := 29) (JX.al (k := 0) rfl dX11_octet_21) cl11 (by decide) rfl fk11_29 dX11_octet_22) cl10 (by decide) rfl fk11_203 dX11_octet_25) cl1 (by decide) rfl fk11_207 dX11_octet_28) (JA.i (JX.il (k := 2) rfl dX11_octet_31) JA.nil)) aX5_at (RunK.V (i := 161) (c := 5) (n := 1) cl5 rfl (CN nX5_at (by decide) (by decide)) gw594 gw595 gw596 dX11_octet_32) (by decide)) dX11_octet_35)))
def mX11_octet : MS := runM 3 (some (.int)) bX11_octet
theorem aX11_octet : MA yX11_octet cX11_octet 3 (some (.int)) 5 mX11_octet := MA.of (plainFor_of_name (by decide)) jX11_octet
theorem eX11_octet (a0 : Nat) (a1 : Int32) (a2 : Int32) (h : AH) : mX11_octet [.ref a0, .int a1, .int a2] h = (bX11_octet [.val (.ref a0), .val (.int a1), .val (.int a2)] h).bind (finM (some (.int))) := rfl
/-! Cutter.count -/
theorem dX1_count_0 : decode cX1_count 0 = .ok (.aload_n 0, 1) := by decide +kernel
theorem dX1_count_1 : decode cX1_count 1 = .ok (.getfield 18, 3) := by decide +kernel
theorem dX1_count_4 : decode cX1_count 4 = .ok (.invokevirtual 30, 3) := by decide +kernel
theorem dX1_count_7 : decode cX1_count 7 = .ok (.ireturn, 1) := by decide +kernel
abbrev MX1_count : MI := (RX1, cX1_count, 1, 2, false)
def bX1_count : St := (retI (calX decI (ckV 5 0) mX5_size (agC va_rf (getR 1 1 (lvR 0)) agN)))
theorem jX1_count : JS MX1_count 0 0 0 8 [] bX1_count :=
  (JS.retI (pc1 := 7) (JX.call (pc1 := 4) decI_ok (JA.r (JX.getR (pc1 := 1) (c := 1) (k := 1) (i := 18) (JX.al (k := 0) rfl dX1_count_0) cl1 (by decide) rfl fk1_18 dX1_count_1) JA.nil) aX5_size (RunK.V (i := 30) (c := 5) (n := 0) cl5 rfl (CN nX5_size (by decide) (by decide)) gw931 gw587 gw588 dX1_count_4) (by decide)) dX1_count_7)
def mX1_count : MS := runM 1 (some (.int)) bX1_count
theorem aX1_count : MA yX1_count cX1_count 1 (some (.int)) 2 mX1_count := MA.of (plainFor_of_name (by decide)) jX1_count
theorem eX1_count (a0 : Nat) (h : AH) : mX1_count [.ref a0] h = (bX1_count [.val (.ref a0)] h).bind (finM (some (.int))) := rfl
/-! Cutter.firstOf -/
theorem dX1_firstOf_0 : decode cX1_firstOf 0 = .ok (.iload_n 1, 1) := by decide +kernel
theorem dX1_firstOf_1 : decode cX1_firstOf 1 = .ok (.ifCond .le 16, 3) := by decide +kernel
theorem dX1_firstOf_4 : decode cX1_firstOf 4 = .ok (.aload_n 0, 1) := by decide +kernel
theorem dX1_firstOf_5 : decode cX1_firstOf 5 = .ok (.getfield 18, 3) := by decide +kernel
theorem dX1_firstOf_8 : decode cX1_firstOf 8 = .ok (.iload_n 1, 1) := by decide +kernel
theorem dX1_firstOf_9 : decode cX1_firstOf 9 = .ok (.iconst 1, 1) := by decide +kernel
theorem dX1_firstOf_10 : decode cX1_firstOf 10 = .ok (.isub, 1) := by decide +kernel
theorem dX1_firstOf_11 : decode cX1_firstOf 11 = .ok (.invokevirtual 34, 3) := by decide +kernel
theorem dX1_firstOf_14 : decode cX1_firstOf 14 = .ok (.goto 4, 3) := by decide +kernel
theorem dX1_firstOf_17 : decode cX1_firstOf 17 = .ok (.iconst 0, 1) := by decide +kernel
theorem dX1_firstOf_18 : decode cX1_firstOf 18 = .ok (.ireturn, 1) := by decide +kernel
abbrev MX1_firstOf : MI := (RX1, cX1_firstOf, 2, 2, false)
def bX1_firstOf : St := (retI (iteX (gt0 (lvI 1)) (calX decI (ckV 5 1) mX5_at (agC va_rf (getR 1 1 (lvR 0)) (agC Value.int (subI (lvI 1) (ciI (iI 1))) agN))) (ciI (iI 0))))
theorem jX1_firstOf : JS MX1_firstOf 0 0 0 19 [] bX1_firstOf :=
  (JS.retI (pc1 := 18) (JX.ite (l := 17) (pc1 := 4) (pc2 := 14) (pc3 := 18) (lend := 18) (CJ.gt0_f (tgt := 17) (pc1 := 1) (JX.il (k := 1) rfl dX1_firstOf_0) dX1_firstOf_1 rfl) (JX.call (pc1 := 11) decI_ok (JA.r (JX.getR (pc1 := 5) (c := 1) (k := 1) (i := 18) (JX.al (k := 0) rfl dX1_firstOf_4) cl1 (by decide) rfl fk1_18 dX1_firstOf_5) (JA.i (JX.isub (pc1 := 9) (pc2 := 10) (JX.il (k := 1) rfl dX1_firstOf_8) (JX.ic (n := 1) rfl dX1_firstOf_9) dX1_firstOf_10) JA.nil)) aX5_at (RunK.V (i := 34) (c := 5) (n := 1) cl5 rfl (CN nX5_at (by decide) (by decide)) gw932 gw595 gw596 dX1_firstOf_11) (by decide)) dX1_firstOf_14 rfl (JX.ic (n := 0) rfl dX1_firstOf_17) (Or.inl rfl)) dX1_firstOf_18)
def mX1_firstOf : MS := runM 2 (some (.int)) bX1_firstOf
theorem aX1_firstOf : MA yX1_firstOf cX1_firstOf 2 (some (.int)) 2 mX1_firstOf := MA.of (plainFor_of_name (by decide)) jX1_firstOf
theorem eX1_firstOf (a0 : Nat) (a1 : Int32) (h : AH) : mX1_firstOf [.ref a0, .int a1] h = (bX1_firstOf [.val (.ref a0), .val (.int a1)] h).bind (finM (some (.int))) := rfl
/-! Cutter.lengthOf -/
theorem dX1_lengthOf_0 : decode cX1_lengthOf 0 = .ok (.iload_n 1, 1) := by decide +kernel
theorem dX1_lengthOf_1 : decode cX1_lengthOf 1 = .ok (.ifCond .lt 31, 3) := by decide +kernel
theorem dX1_lengthOf_4 : decode cX1_lengthOf 4 = .ok (.iload_n 1, 1) := by decide +kernel
theorem dX1_lengthOf_5 : decode cX1_lengthOf 5 = .ok (.aload_n 0, 1) := by decide +kernel
theorem dX1_lengthOf_6 : decode cX1_lengthOf 6 = .ok (.getfield 18, 3) := by decide +kernel
theorem dX1_lengthOf_9 : decode cX1_lengthOf 9 = .ok (.invokevirtual 30, 3) := by decide +kernel
theorem dX1_lengthOf_12 : decode cX1_lengthOf 12 = .ok (.if_icmp .ge 20, 3) := by decide +kernel
theorem dX1_lengthOf_15 : decode cX1_lengthOf 15 = .ok (.aload_n 0, 1) := by decide +kernel
theorem dX1_lengthOf_16 : decode cX1_lengthOf 16 = .ok (.getfield 18, 3) := by decide +kernel
theorem dX1_lengthOf_19 : decode cX1_lengthOf 19 = .ok (.iload_n 1, 1) := by decide +kernel
theorem dX1_lengthOf_20 : decode cX1_lengthOf 20 = .ok (.invokevirtual 34, 3) := by decide +kernel
theorem dX1_lengthOf_23 : decode cX1_lengthOf 23 = .ok (.aload_n 0, 1) := by decide +kernel
theorem dX1_lengthOf_24 : decode cX1_lengthOf 24 = .ok (.iload_n 1, 1) := by decide +kernel
theorem dX1_lengthOf_25 : decode cX1_lengthOf 25 = .ok (.invokevirtual 51, 3) := by decide +kernel
theorem dX1_lengthOf_28 : decode cX1_lengthOf 28 = .ok (.isub, 1) := by decide +kernel
theorem dX1_lengthOf_29 : decode cX1_lengthOf 29 = .ok (.goto 4, 3) := by decide +kernel
theorem dX1_lengthOf_32 : decode cX1_lengthOf 32 = .ok (.iconst 0, 1) := by decide +kernel
theorem dX1_lengthOf_33 : decode cX1_lengthOf 33 = .ok (.ireturn, 1) := by decide +kernel
abbrev MX1_lengthOf : MI := (RX1, cX1_lengthOf, 2, 3, false)
def bX1_lengthOf : St := (retI (iteX (andX (ge0 (lvI 1)) (ltI (lvI 1) (calX decI (ckV 5 0) mX5_size (agC va_rf (getR 1 1 (lvR 0)) agN)))) (subI (calX decI (ckV 5 1) mX5_at (agC va_rf (getR 1 1 (lvR 0)) (agC Value.int (lvI 1) agN))) (calX decI (ckV 1 1) mX1_firstOf (agC va_rf (lvR 0) (agC Value.int (lvI 1) agN)))) (ciI (iI 0))))
theorem jX1_lengthOf : JS MX1_lengthOf 0 0 0 34 [] bX1_lengthOf :=
  (JS.retI (pc1 := 33) (JX.ite (l := 32) (pc1 := 15) (pc2 := 29) (pc3 := 33) (lend := 33) (CJ.and_f (pc1 := 4) (CJ.ge0_f (tgt := 32) (pc1 := 1) (JX.il (k := 1) rfl dX1_lengthOf_0) dX1_lengthOf_1 rfl) (CJ.lt_f (tgt := 32) (pc1 := 5) (pc2 := 12) (JX.il (k := 1) rfl dX1_lengthOf_4) (JX.call (pc1 := 9) decI_ok (JA.r (JX.getR (pc1 := 6) (c := 1) (k := 1) (i := 18) (JX.al (k := 0) rfl dX1_lengthOf_5) cl1 (by decide) rfl fk1_18 dX1_lengthOf_6) JA.nil) aX5_size (RunK.V (i := 30) (c := 5) (n := 0) cl5 rfl (CN nX5_size (by decide) (by decide)) gw931 gw587 gw588 dX1_lengthOf_9) (by decide)) dX1_lengthOf_12 rfl)) (JX.isub (pc1 := 23) (pc2 := 28) (JX.call (pc1 := 20) decI_ok (JA.r (JX.getR (pc1 := 16) (c := 1) (k := 1) (i := 18) (JX.al (k := 0) rfl dX1_lengthOf_15) cl1 (by decide) rfl fk1_18 dX1_lengthOf_16) (JA.i (JX.il (k := 1) rfl dX1_lengthOf_19) JA.nil)) aX5_at (RunK.V (i := 34) (c := 5) (n := 1) cl5 rfl (CN nX5_at (by decide) (by decide)) gw932 gw595 gw596 dX1_lengthOf_20) (by decide)) (JX.call (pc1 := 25) decI_ok (JA.r (JX.al (k := 0) rfl dX1_lengthOf_23) (JA.i (JX.il (k := 1) rfl dX1_lengthOf_24) JA.nil)) aX1_firstOf (RunK.V (i := 51) (c := 1) (n := 1) cl1 rfl (CN nX1_firstOf (by decide) (by decide)) gw948 gw949 gw950 dX1_lengthOf_25) (by decide)) dX1_lengthOf_28) dX1_lengthOf_29 rfl (JX.ic (n := 0) rfl dX1_lengthOf_32) (Or.inl rfl)) dX1_lengthOf_33)
def mX1_lengthOf : MS := runM 2 (some (.int)) bX1_lengthOf
theorem aX1_lengthOf : MA yX1_lengthOf cX1_lengthOf 2 (some (.int)) 3 mX1_lengthOf := MA.of (plainFor_of_name (by decide)) jX1_lengthOf
theorem eX1_lengthOf (a0 : Nat) (a1 : Int32) (h : AH) : mX1_lengthOf [.ref a0, .int a1] h = (bX1_lengthOf [.val (.ref a0), .val (.int a1)] h).bind (finM (some (.int))) := rfl
def mX5_copyFrom : MS := runM 2 none copyB
theorem eX5_copyFrom (a0 : Nat) (a1 : Nat) (h : AH) : mX5_copyFrom [.ref a0, .ref a1] h = (copyB [.val (.ref a0), .val (.ref a1)] h).bind (finM none) := rfl
theorem aX5_copyFrom : MA yX5_copyFrom cX5_copyFrom 2 none 2 mX5_copyFrom := MA.of (plainFor_of_name (by decide)) (copy_J (dep := 2) (by decide) rowW)
/-! PieceStore.takeFile -/
theorem dX11_takeFile_0 : decode cX11_takeFile 0 = .ok (.aload_n 0, 1) := by decide +kernel
theorem dX11_takeFile_1 : decode cX11_takeFile 1 = .ok (.getfield 54, 3) := by decide +kernel
theorem dX11_takeFile_4 : decode cX11_takeFile 4 = .ok (.ifCond .eq 31, 3) := by decide +kernel
theorem dX11_takeFile_7 : decode cX11_takeFile 7 = .ok (.aload_n 0, 1) := by decide +kernel
theorem dX11_takeFile_8 : decode cX11_takeFile 8 = .ok (.getfield 10, 3) := by decide +kernel
theorem dX11_takeFile_11 : decode cX11_takeFile 11 = .ok (.invokevirtual 69, 3) := by decide +kernel
theorem dX11_takeFile_14 : decode cX11_takeFile 14 = .ok (.iconst 1, 1) := by decide +kernel
theorem dX11_takeFile_15 : decode cX11_takeFile 15 = .ok (.if_icmp .lt 20, 3) := by decide +kernel
theorem dX11_takeFile_18 : decode cX11_takeFile 18 = .ok (.aload_n 0, 1) := by decide +kernel
theorem dX11_takeFile_19 : decode cX11_takeFile 19 = .ok (.getfield 10, 3) := by decide +kernel
theorem dX11_takeFile_22 : decode cX11_takeFile 22 = .ok (.invokevirtual 69, 3) := by decide +kernel
theorem dX11_takeFile_25 : decode cX11_takeFile 25 = .ok (.sipush 400, 3) := by decide +kernel
theorem dX11_takeFile_28 : decode cX11_takeFile 28 = .ok (.if_icmp .gt 7, 3) := by decide +kernel
theorem dX11_takeFile_31 : decode cX11_takeFile 31 = .ok (.iconst 1, 1) := by decide +kernel
theorem dX11_takeFile_32 : decode cX11_takeFile 32 = .ok (.goto 4, 3) := by decide +kernel
theorem dX11_takeFile_35 : decode cX11_takeFile 35 = .ok (.iconst 0, 1) := by decide +kernel
theorem dX11_takeFile_36 : decode cX11_takeFile 36 = .ok (.istore_n 1, 1) := by decide +kernel
theorem dX11_takeFile_37 : decode cX11_takeFile 37 = .ok (.iload_n 1, 1) := by decide +kernel
theorem dX11_takeFile_38 : decode cX11_takeFile 38 = .ok (.ifCond .eq 20, 3) := by decide +kernel
theorem dX11_takeFile_41 : decode cX11_takeFile 41 = .ok (.aload_n 0, 1) := by decide +kernel
theorem dX11_takeFile_42 : decode cX11_takeFile 42 = .ok (.getfield 29, 3) := by decide +kernel
theorem dX11_takeFile_45 : decode cX11_takeFile 45 = .ok (.getfield 203, 3) := by decide +kernel
theorem dX11_takeFile_48 : decode cX11_takeFile 48 = .ok (.getfield 207, 3) := by decide +kernel
theorem dX11_takeFile_51 : decode cX11_takeFile 51 = .ok (.aload_n 0, 1) := by decide +kernel
theorem dX11_takeFile_52 : decode cX11_takeFile 52 = .ok (.getfield 10, 3) := by decide +kernel
theorem dX11_takeFile_55 : decode cX11_takeFile 55 = .ok (.invokevirtual 317, 3) := by decide +kernel
theorem dX11_takeFile_58 : decode cX11_takeFile 58 = .ok (.aload_n 0, 1) := by decide +kernel
theorem dX11_takeFile_59 : decode cX11_takeFile 59 = .ok (.getfield 10, 3) := by decide +kernel
theorem dX11_takeFile_62 : decode cX11_takeFile 62 = .ok (.invokevirtual 88, 3) := by decide +kernel
theorem dX11_takeFile_65 : decode cX11_takeFile 65 = .ok (.iload_n 1, 1) := by decide +kernel
theorem dX11_takeFile_66 : decode cX11_takeFile 66 = .ok (.ireturn, 1) := by decide +kernel
abbrev MX11_takeFile : MI := (RX11, cX11_takeFile, 2, 3, false)
def bX11_takeFile : St := (seqS (lsI 1 (iteX (andX (andX (ne0 (getI 11 7 (lvR 0))) (geI (calX decI (ckV 5 0) mX5_size (agC va_rf (getR 11 0 (lvR 0)) agN)) (ciI (iI 1)))) (leI (calX decI (ckV 5 0) mX5_size (agC va_rf (getR 11 0 (lvR 0)) agN)) (ciI (iI 400)))) (ciI (iI 1)) (ciI (iI 0)))) (seqS (ifS (ne0 (lvI 1)) (calS (ckV 5 1) mX5_copyFrom (agC va_rf (getR 1 0 (getR 10 1 (getR 11 3 (lvR 0)))) (agC va_rf (getR 11 0 (lvR 0)) agN)))) (seqS (calS (ckV 5 0) mX5_clear (agC va_rf (getR 11 0 (lvR 0)) agN)) (retI (lvI 1)))))
theorem jX11_takeFile : JS MX11_takeFile 0 0 0 67 [] bX11_takeFile :=
  (JS.seq (pc1 := 37) (JS.is (pc1 := 36) (k := 1) (JX.ite (l := 35) (pc1 := 31) (pc2 := 32) (pc3 := 36) (lend := 36) (CJ.and_f (pc1 := 18) (CJ.and_f (pc1 := 7) (CJ.ne0_f (tgt := 35) (pc1 := 4) (JX.getI (pc1 := 1) (c := 11) (k := 7) (i := 54) (JX.al (k := 0) rfl dX11_takeFile_0) cl11 (by decide) rfl fk11_54 dX11_takeFile_1) dX11_takeFile_4 rfl) (CJ.ge_f (tgt := 35) (pc1 := 14) (pc2 := 15) (JX.call (pc1 := 11) decI_ok (JA.r (JX.getR (pc1 := 8) (c := 11) (k := 0) (i := 10) (JX.al (k := 0) rfl dX11_takeFile_7) cl11 (by decide) rfl fk11_10 dX11_takeFile_8) JA.nil) aX5_size (RunK.V (i := 69) (c := 5) (n := 0) cl5 rfl (CN nX5_size (by decide) (by decide)) gw586 gw587 gw588 dX11_takeFile_11) (by decide)) (JX.ic (n := 1) rfl dX11_takeFile_14) dX11_takeFile_15 rfl)) (CJ.le_f (tgt := 35) (pc1 := 25) (pc2 := 28) (JX.call (pc1 := 22) decI_ok (JA.r (JX.getR (pc1 := 19) (c := 11) (k := 0) (i := 10) (JX.al (k := 0) rfl dX11_takeFile_18) cl11 (by decide) rfl fk11_10 dX11_takeFile_19) JA.nil) aX5_size (RunK.V (i := 69) (c := 5) (n := 0) cl5 rfl (CN nX5_size (by decide) (by decide)) gw586 gw587 gw588 dX11_takeFile_22) (by decide)) (JX.sp (n := 400) ks400 dX11_takeFile_25) dX11_takeFile_28 rfl)) (JX.ic (n := 1) rfl dX11_takeFile_31) dX11_takeFile_32 rfl (JX.ic (n := 0) rfl dX11_takeFile_35) (Or.inl rfl)) rfl (show 1 < 2 by decide) dX11_takeFile_36) (JS.seq (pc1 := 58) (JS.iff (l := 58) (pc1 := 41) (CJ.ne0_f (tgt := 58) (pc1 := 38) (JX.il (k := 1) rfl dX11_takeFile_37) dX11_takeFile_38 rfl) (JS.call (pc1 := 55) (JA.r (JX.getR (pc1 := 48) (c := 1) (k := 0) (i := 207) (JX.getR (pc1 := 45) (c := 10) (k := 1) (i := 203) (JX.getR (pc1 := 42) (c := 11) (k := 3) (i := 29) (JX.al (k := 0) rfl dX11_takeFile_41) cl11 (by decide) rfl fk11_29 dX11_takeFile_42) cl10 (by decide) rfl fk11_203 dX11_takeFile_45) cl1 (by decide) rfl fk11_207 dX11_takeFile_48) (JA.r (JX.getR (pc1 := 52) (c := 11) (k := 0) (i := 10) (JX.al (k := 0) rfl dX11_takeFile_51) cl11 (by decide) rfl fk11_10 dX11_takeFile_52) JA.nil)) aX5_copyFrom (RunK.V (i := 317) (c := 5) (n := 1) cl5 rfl (CN nX5_copyFrom (by decide) (by decide)) gw915 gw916 gw917 dX11_takeFile_55)) (Or.inl rfl)) (JS.seq (pc1 := 65) (JS.call (pc1 := 62) (JA.r (JX.getR (pc1 := 59) (c := 11) (k := 0) (i := 10) (JX.al (k := 0) rfl dX11_takeFile_58) cl11 (by decide) rfl fk11_10 dX11_takeFile_59) JA.nil) aX5_clear (RunK.V (i := 88) (c := 5) (n := 0) cl5 rfl (CN nX5_clear (by decide) (by decide)) gw751 gw209 gw210 dX11_takeFile_62)) (JS.retI (pc1 := 66) (JX.il (k := 1) rfl dX11_takeFile_65) dX11_takeFile_66))))
def mX11_takeFile : MS := runM 2 (some (.boolean)) bX11_takeFile
theorem aX11_takeFile : MA yX11_takeFile cX11_takeFile 2 (some (.boolean)) 3 mX11_takeFile := MA.of (plainFor_of_name (by decide)) jX11_takeFile
theorem eX11_takeFile (a0 : Nat) (h : AH) : mX11_takeFile [.ref a0] h = (bX11_takeFile [.val (.ref a0), .unset] h).bind (finM (some (.boolean))) := rfl
/-! Rules.isBorder -/
theorem dX6_isBorder_0 : decode cX6_isBorder 0 = .ok (.aload_n 0, 1) := by decide +kernel
theorem dX6_isBorder_1 : decode cX6_isBorder 1 = .ok (.iconst 3, 1) := by decide +kernel
theorem dX6_isBorder_2 : decode cX6_isBorder 2 = .ok (.invokevirtual 63, 3) := by decide +kernel
theorem dX6_isBorder_5 : decode cX6_isBorder 5 = .ok (.istore 5, 2) := by decide +kernel
theorem dX6_isBorder_7 : decode cX6_isBorder 7 = .ok (.aload_n 0, 1) := by decide +kernel
theorem dX6_isBorder_8 : decode cX6_isBorder 8 = .ok (.getfield 21, 3) := by decide +kernel
theorem dX6_isBorder_11 : decode cX6_isBorder 11 = .ok (.getfield 56, 3) := by decide +kernel
theorem dX6_isBorder_14 : decode cX6_isBorder 14 = .ok (.invokevirtual 66, 3) := by decide +kernel
theorem dX6_isBorder_17 : decode cX6_isBorder 17 = .ok (.ifCond .ne 26, 3) := by decide +kernel
theorem dX6_isBorder_20 : decode cX6_isBorder 20 = .ok (.iload_n 2, 1) := by decide +kernel
theorem dX6_isBorder_21 : decode cX6_isBorder 21 = .ok (.iload_n 3, 1) := by decide +kernel
theorem dX6_isBorder_22 : decode cX6_isBorder 22 = .ok (.iload 5, 2) := by decide +kernel
theorem dX6_isBorder_24 : decode cX6_isBorder 24 = .ok (.if_icmp .ge 8, 3) := by decide +kernel
theorem dX6_isBorder_27 : decode cX6_isBorder 27 = .ok (.bipush 8, 2) := by decide +kernel
theorem dX6_isBorder_29 : decode cX6_isBorder 29 = .ok (.goto 4, 3) := by decide +kernel
theorem dX6_isBorder_32 : decode cX6_isBorder 32 = .ok (.iconst 3, 1) := by decide +kernel
theorem dX6_isBorder_33 : decode cX6_isBorder 33 = .ok (.irem, 1) := by decide +kernel
theorem dX6_isBorder_34 : decode cX6_isBorder 34 = .ok (.ifCond .ne 7, 3) := by decide +kernel
theorem dX6_isBorder_37 : decode cX6_isBorder 37 = .ok (.iconst 1, 1) := by decide +kernel
theorem dX6_isBorder_38 : decode cX6_isBorder 38 = .ok (.goto 4, 3) := by decide +kernel
theorem dX6_isBorder_41 : decode cX6_isBorder 41 = .ok (.iconst 0, 1) := by decide +kernel
theorem dX6_isBorder_42 : decode cX6_isBorder 42 = .ok (.ireturn, 1) := by decide +kernel
theorem dX6_isBorder_43 : decode cX6_isBorder 43 = .ok (.aload_n 0, 1) := by decide +kernel
theorem dX6_isBorder_44 : decode cX6_isBorder 44 = .ok (.getfield 31, 3) := by decide +kernel
theorem dX6_isBorder_47 : decode cX6_isBorder 47 = .ok (.bipush 13, 2) := by decide +kernel
theorem dX6_isBorder_49 : decode cX6_isBorder 49 = .ok (.iload_n 1, 1) := by decide +kernel
theorem dX6_isBorder_50 : decode cX6_isBorder 50 = .ok (.invokevirtual 70, 3) := by decide +kernel
theorem dX6_isBorder_53 : decode cX6_isBorder 53 = .ok (.aload_n 0, 1) := by decide +kernel
theorem dX6_isBorder_54 : decode cX6_isBorder 54 = .ok (.getfield 31, 3) := by decide +kernel
theorem dX6_isBorder_57 : decode cX6_isBorder 57 = .ok (.bipush 14, 2) := by decide +kernel
theorem dX6_isBorder_59 : decode cX6_isBorder 59 = .ok (.iload_n 2, 1) := by decide +kernel
theorem dX6_isBorder_60 : decode cX6_isBorder 60 = .ok (.invokevirtual 70, 3) := by decide +kernel
theorem dX6_isBorder_63 : decode cX6_isBorder 63 = .ok (.aload_n 0, 1) := by decide +kernel
theorem dX6_isBorder_64 : decode cX6_isBorder 64 = .ok (.getfield 31, 3) := by decide +kernel
theorem dX6_isBorder_67 : decode cX6_isBorder 67 = .ok (.bipush 15, 2) := by decide +kernel
theorem dX6_isBorder_69 : decode cX6_isBorder 69 = .ok (.iload_n 3, 1) := by decide +kernel
theorem dX6_isBorder_70 : decode cX6_isBorder 70 = .ok (.invokevirtual 70, 3) := by decide +kernel
theorem dX6_isBorder_73 : decode cX6_isBorder 73 = .ok (.aload_n 0, 1) := by decide +kernel
theorem dX6_isBorder_74 : decode cX6_isBorder 74 = .ok (.getfield 31, 3) := by decide +kernel
theorem dX6_isBorder_77 : decode cX6_isBorder 77 = .ok (.bipush 16, 2) := by decide +kernel
theorem dX6_isBorder_79 : decode cX6_isBorder 79 = .ok (.iload 4, 2) := by decide +kernel
theorem dX6_isBorder_81 : decode cX6_isBorder 81 = .ok (.invokevirtual 70, 3) := by decide +kernel
theorem dX6_isBorder_84 : decode cX6_isBorder 84 = .ok (.aload_n 0, 1) := by decide +kernel
theorem dX6_isBorder_85 : decode cX6_isBorder 85 = .ok (.getfield 31, 3) := by decide +kernel
theorem dX6_isBorder_88 : decode cX6_isBorder 88 = .ok (.iconst 3, 1) := by decide +kernel
theorem dX6_isBorder_89 : decode cX6_isBorder 89 = .ok (.iload 5, 2) := by decide +kernel
theorem dX6_isBorder_91 : decode cX6_isBorder 91 = .ok (.invokevirtual 70, 3) := by decide +kernel
theorem dX6_isBorder_94 : decode cX6_isBorder 94 = .ok (.aload_n 0, 1) := by decide +kernel
theorem dX6_isBorder_95 : decode cX6_isBorder 95 = .ok (.getfield 21, 3) := by decide +kernel
theorem dX6_isBorder_98 : decode cX6_isBorder 98 = .ok (.aload_n 0, 1) := by decide +kernel
theorem dX6_isBorder_99 : decode cX6_isBorder 99 = .ok (.getfield 31, 3) := by decide +kernel
theorem dX6_isBorder_102 : decode cX6_isBorder 102 = .ok (.invokevirtual 73, 3) := by decide +kernel
theorem dX6_isBorder_105 : decode cX6_isBorder 105 = .ok (.ireturn, 1) := by decide +kernel
abbrev MX6_isBorder : MI := (RX6, cX6_isBorder, 6, 4, false)
def bX6_isBorder : St := (seqS (lsI 5 (calX decI (ckV 6 1) mX6_number (agC va_rf (lvR 0) (agC Value.int (ciI (iI 3)) agN)))) (seqS (ifS (eq0 (calX decI (ckV 5 0) mX5_size (agC va_rf (getR 0 0 (getR 6 1 (lvR 0))) agN))) (retI (iteX (eq0 (remI (lvI 2) (iteX (ltI (lvI 3) (lvI 5)) (ciI (iI 8)) (ciI (iI 3))))) (ciI (iI 1)) (ciI (iI 0))))) (seqS (calS (ckV 5 2) mX5_put (agC va_rf (getR 6 4 (lvR 0)) (agC Value.int (ciI (iI 13)) (agC Value.int (lvI 1) agN)))) (seqS (calS (ckV 5 2) mX5_put (agC va_rf (getR 6 4 (lvR 0)) (agC Value.int (ciI (iI 14)) (agC Value.int (lvI 2) agN)))) (seqS (calS (ckV 5 2) mX5_put (agC va_rf (getR 6 4 (lvR 0)) (agC Value.int (ciI (iI 15)) (agC Value.int (lvI 3) agN)))) (seqS (calS (ckV 5 2) mX5_put (agC va_rf (getR 6 4 (lvR 0)) (agC Value.int (ciI (iI 16)) (agC Value.int (lvI 4) agN)))) (seqS (calS (ckV 5 2) mX5_put (agC va_rf (getR 6 4 (lvR 0)) (agC Value.int (ciI (iI 3)) (agC Value.int (lvI 5) agN)))) (retI (calX decI (ckV 0 1) mX0_holds (agC va_rf (getR 6 1 (lvR 0)) (agC va_rf (getR 6 4 (lvR 0)) agN)))))))))))
theorem jX6_isBorder : JS MX6_isBorder 0 0 0 106 [] bX6_isBorder :=
  (JS.seq (pc1 := 7) (JS.is2 (pc1 := 5) (JX.call (pc1 := 2) decI_ok (JA.r (JX.al (k := 0) rfl dX6_isBorder_0) (JA.i (JX.ic (n := 3) rfl dX6_isBorder_1) JA.nil)) aX6_number (RunK.V (i := 63) (c := 6) (n := 1) cl6 rfl (CN nX6_number (by decide) (by decide)) gw938 gw762 gw763 dX6_isBorder_2) (by decide)) (show 5 < 6 by decide) dX6_isBorder_5) (JS.seq (pc1 := 43) (JS.iff (l := 43) (pc1 := 20) (CJ.eq0_f (tgt := 43) (pc1 := 17) (JX.call (pc1 := 14) decI_ok (JA.r (JX.getR (pc1 := 11) (c := 0) (k := 0) (i := 56) (JX.getR (pc1 := 8) (c := 6) (k := 1) (i := 21) (JX.al (k := 0) rfl dX6_isBorder_7) cl6 (by decide) rfl fk6_21 dX6_isBorder_8) cl0 (by decide) rfl fk6_56 dX6_isBorder_11) JA.nil) aX5_size (RunK.V (i := 66) (c := 5) (n := 0) cl5 rfl (CN nX5_size (by decide) (by decide)) gw862 gw587 gw588 dX6_isBorder_14) (by decide)) dX6_isBorder_17 rfl) (JS.retI (pc1 := 42) (JX.ite (l := 41) (pc1 := 37) (pc2 := 38) (pc3 := 42) (lend := 42) (CJ.eq0_f (tgt := 41) (pc1 := 34) (JX.irem (pc1 := 21) (pc2 := 33) (JX.il (k := 2) rfl dX6_isBorder_20) (JX.ite (l := 32) (pc1 := 27) (pc2 := 29) (pc3 := 33) (lend := 33) (CJ.lt_f (tgt := 32) (pc1 := 22) (pc2 := 24) (JX.il (k := 3) rfl dX6_isBorder_21) (JX.il2 dX6_isBorder_22) dX6_isBorder_24 rfl) (JX.bp (n := 8) kb8 dX6_isBorder_27) dX6_isBorder_29 rfl (JX.ic (n := 3) rfl dX6_isBorder_32) (Or.inl rfl)) dX6_isBorder_33) dX6_isBorder_34 rfl) (JX.ic (n := 1) rfl dX6_isBorder_37) dX6_isBorder_38 rfl (JX.ic (n := 0) rfl dX6_isBorder_41) (Or.inl rfl)) dX6_isBorder_42) (Or.inl rfl)) (JS.seq (pc1 := 53) (JS.call (pc1 := 50) (JA.r (JX.getR (pc1 := 44) (c := 6) (k := 4) (i := 31) (JX.al (k := 0) rfl dX6_isBorder_43) cl6 (by decide) rfl fk6_31 dX6_isBorder_44) (JA.i (JX.bp (n := 13) kb13 dX6_isBorder_47) (JA.i (JX.il (k := 1) rfl dX6_isBorder_49) JA.nil))) aX5_put (RunK.V (i := 70) (c := 5) (n := 2) cl5 rfl (CN nX5_put (by decide) (by decide)) gw863 gw599 gw600 dX6_isBorder_50)) (JS.seq (pc1 := 63) (JS.call (pc1 := 60) (JA.r (JX.getR (pc1 := 54) (c := 6) (k := 4) (i := 31) (JX.al (k := 0) rfl dX6_isBorder_53) cl6 (by decide) rfl fk6_31 dX6_isBorder_54) (JA.i (JX.bp (n := 14) kb14 dX6_isBorder_57) (JA.i (JX.il (k := 2) rfl dX6_isBorder_59) JA.nil))) aX5_put (RunK.V (i := 70) (c := 5) (n := 2) cl5 rfl (CN nX5_put (by decide) (by decide)) gw863 gw599 gw600 dX6_isBorder_60)) (JS.seq (pc1 := 73) (JS.call (pc1 := 70) (JA.r (JX.getR (pc1 := 64) (c := 6) (k := 4) (i := 31) (JX.al (k := 0) rfl dX6_isBorder_63) cl6 (by decide) rfl fk6_31 dX6_isBorder_64) (JA.i (JX.bp (n := 15) kb15 dX6_isBorder_67) (JA.i (JX.il (k := 3) rfl dX6_isBorder_69) JA.nil))) aX5_put (RunK.V (i := 70) (c := 5) (n := 2) cl5 rfl (CN nX5_put (by decide) (by decide)) gw863 gw599 gw600 dX6_isBorder_70)) (JS.seq (pc1 := 84) (JS.call (pc1 := 81) (JA.r (JX.getR (pc1 := 74) (c := 6) (k := 4) (i := 31) (JX.al (k := 0) rfl dX6_isBorder_73) cl6 (by decide) rfl fk6_31 dX6_isBorder_74) (JA.i (JX.bp (n := 16) kb16 dX6_isBorder_77) (JA.i (JX.il2 dX6_isBorder_79) JA.nil))) aX5_put (RunK.V (i := 70) (c := 5) (n := 2) cl5 rfl (CN nX5_put (by decide) (by decide)) gw863 gw599 gw600 dX6_isBorder_81)) (JS.seq (pc1 := 94) (JS.call (pc1 := 91) (JA.r (JX.getR (pc1 := 85) (c := 6) (k := 4) (i := 31) (JX.al (k := 0) rfl dX6_isBorder_84) cl6 (by decide) rfl fk6_31 dX6_isBorder_85) (JA.i (JX.ic (n := 3) rfl dX6_isBorder_88) (JA.i (JX.il2 dX6_isBorder_89) JA.nil))) aX5_put (RunK.V (i := 70) (c := 5) (n := 2) cl5 rfl (CN nX5_put (by decide) (by decide)) gw863 gw599 gw600 dX6_isBorder_91)) (JS.retI (pc1 := 105) (JX.call (pc1 := 102) decI_ok (JA.r (JX.getR (pc1 := 95) (c := 6) (k := 1) (i := 21) (JX.al (k := 0) rfl dX6_isBorder_94) cl6 (by decide) rfl fk6_21 dX6_isBorder_95) (JA.r (JX.getR (pc1 := 99) (c := 6) (k := 4) (i := 31) (JX.al (k := 0) rfl dX6_isBorder_98) cl6 (by decide) rfl fk6_31 dX6_isBorder_99) JA.nil)) aX0_holds (RunK.V (i := 73) (c := 0) (n := 1) cl0 rfl (CN nX0_holds (by decide) (by decide)) gw864 gw865 gw866 dX6_isBorder_102) (by decide)) dX6_isBorder_105))))))))
def mX6_isBorder : MS := runM 6 (some (.boolean)) bX6_isBorder
theorem aX6_isBorder : MA yX6_isBorder cX6_isBorder 6 (some (.boolean)) 4 mX6_isBorder := MA.of (plainFor_of_name (by decide)) jX6_isBorder
theorem eX6_isBorder (a0 : Nat) (a1 : Int32) (a2 : Int32) (a3 : Int32) (a4 : Int32) (h : AH) : mX6_isBorder [.ref a0, .int a1, .int a2, .int a3, .int a4] h = (bX6_isBorder [.val (.ref a0), .val (.int a1), .val (.int a2), .val (.int a3), .val (.int a4), .unset] h).bind (finM (some (.boolean))) := rfl
/-! Cutter.cut -/
theorem dX1_cut_0 : decode cX1_cut 0 = .ok (.iconst 1, 1) := by decide +kernel
theorem dX1_cut_1 : decode cX1_cut 1 = .ok (.istore 4, 2) := by decide +kernel
theorem dX1_cut_3 : decode cX1_cut 3 = .ok (.iconst 0, 1) := by decide +kernel
theorem dX1_cut_4 : decode cX1_cut 4 = .ok (.istore 5, 2) := by decide +kernel
theorem dX1_cut_6 : decode cX1_cut 6 = .ok (.iload 5, 2) := by decide +kernel
theorem dX1_cut_8 : decode cX1_cut 8 = .ok (.iload_n 2, 1) := by decide +kernel
theorem dX1_cut_9 : decode cX1_cut 9 = .ok (.if_icmp .ge 20, 3) := by decide +kernel
theorem dX1_cut_12 : decode cX1_cut 12 = .ok (.iload 4, 2) := by decide +kernel
theorem dX1_cut_14 : decode cX1_cut 14 = .ok (.bipush 31, 2) := by decide +kernel
theorem dX1_cut_16 : decode cX1_cut 16 = .ok (.imul, 1) := by decide +kernel
theorem dX1_cut_17 : decode cX1_cut 17 = .ok (.sipush 1009, 3) := by decide +kernel
theorem dX1_cut_20 : decode cX1_cut 20 = .ok (.irem, 1) := by decide +kernel
theorem dX1_cut_21 : decode cX1_cut 21 = .ok (.istore 4, 2) := by decide +kernel
theorem dX1_cut_23 : decode cX1_cut 23 = .ok (.iinc 5 1, 3) := by decide +kernel
theorem dX1_cut_26 : decode cX1_cut 26 = .ok (.goto (-20), 3) := by decide +kernel
theorem dX1_cut_29 : decode cX1_cut 29 = .ok (.aload_n 0, 1) := by decide +kernel
theorem dX1_cut_30 : decode cX1_cut 30 = .ok (.getfield 18, 3) := by decide +kernel
theorem dX1_cut_33 : decode cX1_cut 33 = .ok (.invokevirtual 21, 3) := by decide +kernel
theorem dX1_cut_36 : decode cX1_cut 36 = .ok (.aload_n 1, 1) := by decide +kernel
theorem dX1_cut_37 : decode cX1_cut 37 = .ok (.iconst 2, 1) := by decide +kernel
theorem dX1_cut_38 : decode cX1_cut 38 = .ok (.invokevirtual 24, 3) := by decide +kernel
theorem dX1_cut_41 : decode cX1_cut 41 = .ok (.istore 5, 2) := by decide +kernel
theorem dX1_cut_43 : decode cX1_cut 43 = .ok (.aload_n 1, 1) := by decide +kernel
theorem dX1_cut_44 : decode cX1_cut 44 = .ok (.iconst 4, 1) := by decide +kernel
theorem dX1_cut_45 : decode cX1_cut 45 = .ok (.invokevirtual 24, 3) := by decide +kernel
theorem dX1_cut_48 : decode cX1_cut 48 = .ok (.istore 6, 2) := by decide +kernel
theorem dX1_cut_50 : decode cX1_cut 50 = .ok (.iconst 0, 1) := by decide +kernel
theorem dX1_cut_51 : decode cX1_cut 51 = .ok (.istore 7, 2) := by decide +kernel
theorem dX1_cut_53 : decode cX1_cut 53 = .ok (.iconst 0, 1) := by decide +kernel
theorem dX1_cut_54 : decode cX1_cut 54 = .ok (.istore 8, 2) := by decide +kernel
theorem dX1_cut_56 : decode cX1_cut 56 = .ok (.iconst 0, 1) := by decide +kernel
theorem dX1_cut_57 : decode cX1_cut 57 = .ok (.istore 9, 2) := by decide +kernel
theorem dX1_cut_59 : decode cX1_cut 59 = .ok (.iload 9, 2) := by decide +kernel
theorem dX1_cut_61 : decode cX1_cut 61 = .ok (.aload_n 0, 1) := by decide +kernel
theorem dX1_cut_62 : decode cX1_cut 62 = .ok (.getfield 12, 3) := by decide +kernel
theorem dX1_cut_65 : decode cX1_cut 65 = .ok (.invokevirtual 30, 3) := by decide +kernel
theorem dX1_cut_68 : decode cX1_cut 68 = .ok (.if_icmp .ge 136, 3) := by decide +kernel
theorem dX1_cut_71 : decode cX1_cut 71 = .ok (.aload_n 0, 1) := by decide +kernel
theorem dX1_cut_72 : decode cX1_cut 72 = .ok (.getfield 12, 3) := by decide +kernel
theorem dX1_cut_75 : decode cX1_cut 75 = .ok (.iload 9, 2) := by decide +kernel
theorem dX1_cut_77 : decode cX1_cut 77 = .ok (.invokevirtual 34, 3) := by decide +kernel
theorem dX1_cut_80 : decode cX1_cut 80 = .ok (.istore 10, 2) := by decide +kernel
theorem dX1_cut_82 : decode cX1_cut 82 = .ok (.iload 9, 2) := by decide +kernel
theorem dX1_cut_84 : decode cX1_cut 84 = .ok (.iload_n 2, 1) := by decide +kernel
theorem dX1_cut_85 : decode cX1_cut 85 = .ok (.if_icmp .lt 17, 3) := by decide +kernel
theorem dX1_cut_88 : decode cX1_cut 88 = .ok (.aload_n 0, 1) := by decide +kernel
theorem dX1_cut_89 : decode cX1_cut 89 = .ok (.getfield 12, 3) := by decide +kernel
theorem dX1_cut_92 : decode cX1_cut 92 = .ok (.iload 9, 2) := by decide +kernel
theorem dX1_cut_94 : decode cX1_cut 94 = .ok (.iload_n 2, 1) := by decide +kernel
theorem dX1_cut_95 : decode cX1_cut 95 = .ok (.isub, 1) := by decide +kernel
theorem dX1_cut_96 : decode cX1_cut 96 = .ok (.invokevirtual 34, 3) := by decide +kernel
theorem dX1_cut_99 : decode cX1_cut 99 = .ok (.goto 4, 3) := by decide +kernel
theorem dX1_cut_102 : decode cX1_cut 102 = .ok (.iconst 0, 1) := by decide +kernel
theorem dX1_cut_103 : decode cX1_cut 103 = .ok (.istore 11, 2) := by decide +kernel
theorem dX1_cut_105 : decode cX1_cut 105 = .ok (.bipush 31, 2) := by decide +kernel
theorem dX1_cut_107 : decode cX1_cut 107 = .ok (.iload 7, 2) := by decide +kernel
theorem dX1_cut_109 : decode cX1_cut 109 = .ok (.imul, 1) := by decide +kernel
theorem dX1_cut_110 : decode cX1_cut 110 = .ok (.iload 10, 2) := by decide +kernel
theorem dX1_cut_112 : decode cX1_cut 112 = .ok (.iadd, 1) := by decide +kernel
theorem dX1_cut_113 : decode cX1_cut 113 = .ok (.iload 4, 2) := by decide +kernel
theorem dX1_cut_115 : decode cX1_cut 115 = .ok (.iload 11, 2) := by decide +kernel
theorem dX1_cut_117 : decode cX1_cut 117 = .ok (.imul, 1) := by decide +kernel
theorem dX1_cut_118 : decode cX1_cut 118 = .ok (.isub, 1) := by decide +kernel
theorem dX1_cut_119 : decode cX1_cut 119 = .ok (.sipush 1009, 3) := by decide +kernel
theorem dX1_cut_122 : decode cX1_cut 122 = .ok (.invokestatic 37, 3) := by decide +kernel
theorem dX1_cut_125 : decode cX1_cut 125 = .ok (.istore 7, 2) := by decide +kernel
theorem dX1_cut_127 : decode cX1_cut 127 = .ok (.iinc 8 1, 3) := by decide +kernel
theorem dX1_cut_130 : decode cX1_cut 130 = .ok (.iload 8, 2) := by decide +kernel
theorem dX1_cut_132 : decode cX1_cut 132 = .ok (.iload 6, 2) := by decide +kernel
theorem dX1_cut_134 : decode cX1_cut 134 = .ok (.if_icmp .ge 17, 3) := by decide +kernel
theorem dX1_cut_137 : decode cX1_cut 137 = .ok (.iload 9, 2) := by decide +kernel
theorem dX1_cut_139 : decode cX1_cut 139 = .ok (.aload_n 0, 1) := by decide +kernel
theorem dX1_cut_140 : decode cX1_cut 140 = .ok (.getfield 12, 3) := by decide +kernel
theorem dX1_cut_143 : decode cX1_cut 143 = .ok (.invokevirtual 30, 3) := by decide +kernel
theorem dX1_cut_146 : decode cX1_cut 146 = .ok (.iconst 1, 1) := by decide +kernel
theorem dX1_cut_147 : decode cX1_cut 147 = .ok (.isub, 1) := by decide +kernel
theorem dX1_cut_148 : decode cX1_cut 148 = .ok (.if_icmp .ne 7, 3) := by decide +kernel
theorem dX1_cut_151 : decode cX1_cut 151 = .ok (.iconst 1, 1) := by decide +kernel
theorem dX1_cut_152 : decode cX1_cut 152 = .ok (.goto 4, 3) := by decide +kernel
theorem dX1_cut_155 : decode cX1_cut 155 = .ok (.iconst 0, 1) := by decide +kernel
theorem dX1_cut_156 : decode cX1_cut 156 = .ok (.istore 12, 2) := by decide +kernel
theorem dX1_cut_158 : decode cX1_cut 158 = .ok (.iload 12, 2) := by decide +kernel
theorem dX1_cut_160 : decode cX1_cut 160 = .ok (.ifCond .ne 24, 3) := by decide +kernel
theorem dX1_cut_163 : decode cX1_cut 163 = .ok (.iload 8, 2) := by decide +kernel
theorem dX1_cut_165 : decode cX1_cut 165 = .ok (.iload 5, 2) := by decide +kernel
theorem dX1_cut_167 : decode cX1_cut 167 = .ok (.if_icmp .lt 31, 3) := by decide +kernel
theorem dX1_cut_170 : decode cX1_cut 170 = .ok (.aload_n 1, 1) := by decide +kernel
theorem dX1_cut_171 : decode cX1_cut 171 = .ok (.iload_n 3, 1) := by decide +kernel
theorem dX1_cut_172 : decode cX1_cut 172 = .ok (.iload 7, 2) := by decide +kernel
theorem dX1_cut_174 : decode cX1_cut 174 = .ok (.iload 8, 2) := by decide +kernel
theorem dX1_cut_176 : decode cX1_cut 176 = .ok (.iload 10, 2) := by decide +kernel
theorem dX1_cut_178 : decode cX1_cut 178 = .ok (.invokevirtual 43, 3) := by decide +kernel
theorem dX1_cut_181 : decode cX1_cut 181 = .ok (.ifCond .eq 17, 3) := by decide +kernel
theorem dX1_cut_184 : decode cX1_cut 184 = .ok (.aload_n 0, 1) := by decide +kernel
theorem dX1_cut_185 : decode cX1_cut 185 = .ok (.getfield 18, 3) := by decide +kernel
theorem dX1_cut_188 : decode cX1_cut 188 = .ok (.iload 9, 2) := by decide +kernel
theorem dX1_cut_190 : decode cX1_cut 190 = .ok (.iconst 1, 1) := by decide +kernel
theorem dX1_cut_191 : decode cX1_cut 191 = .ok (.iadd, 1) := by decide +kernel
theorem dX1_cut_192 : decode cX1_cut 192 = .ok (.invokevirtual 47, 3) := by decide +kernel
theorem dX1_cut_195 : decode cX1_cut 195 = .ok (.iconst 0, 1) := by decide +kernel
theorem dX1_cut_196 : decode cX1_cut 196 = .ok (.istore 8, 2) := by decide +kernel
theorem dX1_cut_198 : decode cX1_cut 198 = .ok (.iinc 9 1, 3) := by decide +kernel
theorem dX1_cut_201 : decode cX1_cut 201 = .ok (.goto (-142), 3) := by decide +kernel
theorem dX1_cut_204 : decode cX1_cut 204 = .ok (.return_, 1) := by decide +kernel
abbrev MX1_cut : MI := (RX1, cX1_cut, 13, 5, false)
def lcX1_cut_1 : Ex Bool := (ltI (lvI 5) (lvI 2))
def lbX1_cut_1 : St := (forB (lsI 4 (remI (mulI (lvI 4) (ciI (iI 31))) (ciI (iI 1009)))) (incI 5 (iI 1)))
def lcX1_cut_2 : Ex Bool := (ltI (lvI 9) (calX decI (ckV 5 0) mX5_size (agC va_rf (getR 1 0 (lvR 0)) agN)))
def lbX1_cut_2 : St := (forB (scS 10 (seqS (lsI 10 (calX decI (ckV 5 1) mX5_at (agC va_rf (getR 1 0 (lvR 0)) (agC Value.int (lvI 9) agN)))) (seqS (lsI 11 (iteX (geI (lvI 9) (lvI 2)) (calX decI (ckV 5 1) mX5_at (agC va_rf (getR 1 0 (lvR 0)) (agC Value.int (subI (lvI 9) (lvI 2)) agN))) (ciI (iI 0)))) (seqS (lsI 7 (calX decI (ckS 2) mJ9_floorMod_7cf53 (agC Value.int (subI (addI (mulI (ciI (iI 31)) (lvI 7)) (lvI 10)) (mulI (lvI 4) (lvI 11))) (agC Value.int (ciI (iI 1009)) agN)))) (seqS (incI 8 (iI 1)) (seqS (lsI 12 (iteX (orX (geI (lvI 8) (lvI 6)) (eqI (lvI 9) (subI (calX decI (ckV 5 0) mX5_size (agC va_rf (getR 1 0 (lvR 0)) agN)) (ciI (iI 1))))) (ciI (iI 1)) (ciI (iI 0)))) (ifS (orX (ne0 (lvI 12)) (andX (geI (lvI 8) (lvI 5)) (ne0 (calX decI (ckV 6 4) mX6_isBorder (agC va_rf (lvR 1) (agC Value.int (lvI 3) (agC Value.int (lvI 7) (agC Value.int (lvI 8) (agC Value.int (lvI 10) agN))))))))) (seqS (calS (ckV 5 1) mX5_add (agC va_rf (getR 1 1 (lvR 0)) (agC Value.int (addI (lvI 9) (ciI (iI 1))) agN))) (lsI 8 (ciI (iI 0))))))))))) (incI 9 (iI 1)))
def bX1_cut : St := (seqS (lsI 4 (ciI (iI 1))) (seqS (scS 5 (seqS (lsI 5 (ciI (iI 0))) (whileS lcX1_cut_1 lbX1_cut_1))) (seqS (calS (ckV 5 0) mX5_clear (agC va_rf (getR 1 1 (lvR 0)) agN)) (seqS (lsI 5 (calX decI (ckV 6 1) mX6_number (agC va_rf (lvR 1) (agC Value.int (ciI (iI 2)) agN)))) (seqS (lsI 6 (calX decI (ckV 6 1) mX6_number (agC va_rf (lvR 1) (agC Value.int (ciI (iI 4)) agN)))) (seqS (lsI 7 (ciI (iI 0))) (seqS (lsI 8 (ciI (iI 0))) (seqS (scS 9 (seqS (lsI 9 (ciI (iI 0))) (whileS lcX1_cut_2 lbX1_cut_2))) retV))))))))
theorem jX1_cut : JS MX1_cut 0 0 0 205 [] bX1_cut :=
  (JS.seq (pc1 := 3) (JS.is2 (pc1 := 1) (JX.ic (n := 1) rfl dX1_cut_0) (show 4 < 13 by decide) dX1_cut_1) (JS.seq (pc1 := 29) (JS.sc (JS.seq (pc1 := 6) (JS.is2 (pc1 := 4) (JX.ic (n := 0) rfl dX1_cut_3) (show 5 < 13 by decide) dX1_cut_4) (JS.while (l := 29) (lb := 29) (pc1 := 12) (pc2 := 26) (pc3 := 29) (CJ.lt_f (tgt := 29) (pc1 := 8) (pc2 := 9) (JX.il2 dX1_cut_6) (JX.il (k := 2) rfl dX1_cut_8) dX1_cut_9 rfl) (JS.forb (pc1 := 23) (JS.is2 (pc1 := 21) (JX.irem (pc1 := 17) (pc2 := 20) (JX.imul (pc1 := 14) (pc2 := 16) (JX.il2 dX1_cut_12) (JX.bp (n := 31) kb31 dX1_cut_14) dX1_cut_16) (JX.sp (n := 1009) ks1009 dX1_cut_17) dX1_cut_20) (show 4 < 13 by decide) dX1_cut_21) (JS.inc (n := 1) rfl (show 5 < 13 by decide) dX1_cut_23)) dX1_cut_26 rfl (Or.inl rfl) (Or.inl rfl)))) (JS.seq (pc1 := 36) (JS.call (pc1 := 33) (JA.r (JX.getR (pc1 := 30) (c := 1) (k := 1) (i := 18) (JX.al (k := 0) rfl dX1_cut_29) cl1 (by decide) rfl fk1_18 dX1_cut_30) JA.nil) aX5_clear (RunK.V (i := 21) (c := 5) (n := 0) cl5 rfl (CN nX5_clear (by decide) (by decide)) gw929 gw209 gw210 dX1_cut_33)) (JS.seq (pc1 := 43) (JS.is2 (pc1 := 41) (JX.call (pc1 := 38) decI_ok (JA.r (JX.al (k := 1) rfl dX1_cut_36) (JA.i (JX.ic (n := 2) rfl dX1_cut_37) JA.nil)) aX6_number (RunK.V (i := 24) (c := 6) (n := 1) cl6 rfl (CN nX6_number (by decide) (by decide)) gw930 gw762 gw763 dX1_cut_38) (by decide)) (show 5 < 13 by decide) dX1_cut_41) (JS.seq (pc1 := 50) (JS.is2 (pc1 := 48) (JX.call (pc1 := 45) decI_ok (JA.r (JX.al (k := 1) rfl dX1_cut_43) (JA.i (JX.ic (n := 4) rfl dX1_cut_44) JA.nil)) aX6_number (RunK.V (i := 24) (c := 6) (n := 1) cl6 rfl (CN nX6_number (by decide) (by decide)) gw930 gw762 gw763 dX1_cut_45) (by decide)) (show 6 < 13 by decide) dX1_cut_48) (JS.seq (pc1 := 53) (JS.is2 (pc1 := 51) (JX.ic (n := 0) rfl dX1_cut_50) (show 7 < 13 by decide) dX1_cut_51) (JS.seq (pc1 := 56) (JS.is2 (pc1 := 54) (JX.ic (n := 0) rfl dX1_cut_53) (show 8 < 13 by decide) dX1_cut_54) (JS.seq (pc1 := 204) (JS.sc (JS.seq (pc1 := 59) (JS.is2 (pc1 := 57) (JX.ic (n := 0) rfl dX1_cut_56) (show 9 < 13 by decide) dX1_cut_57) (JS.while (l := 204) (lb := 204) (pc1 := 71) (pc2 := 201) (pc3 := 204) (CJ.lt_f (tgt := 204) (pc1 := 61) (pc2 := 68) (JX.il2 dX1_cut_59) (JX.call (pc1 := 65) decI_ok (JA.r (JX.getR (pc1 := 62) (c := 1) (k := 0) (i := 12) (JX.al (k := 0) rfl dX1_cut_61) cl1 (by decide) rfl fk1_12 dX1_cut_62) JA.nil) aX5_size (RunK.V (i := 30) (c := 5) (n := 0) cl5 rfl (CN nX5_size (by decide) (by decide)) gw931 gw587 gw588 dX1_cut_65) (by decide)) dX1_cut_68 rfl) (JS.forb (pc1 := 198) (JS.sc (JS.seq (pc1 := 82) (JS.is2 (pc1 := 80) (JX.call (pc1 := 77) decI_ok (JA.r (JX.getR (pc1 := 72) (c := 1) (k := 0) (i := 12) (JX.al (k := 0) rfl dX1_cut_71) cl1 (by decide) rfl fk1_12 dX1_cut_72) (JA.i (JX.il2 dX1_cut_75) JA.nil)) aX5_at (RunK.V (i := 34) (c := 5) (n := 1) cl5 rfl (CN nX5_at (by decide) (by decide)) gw932 gw595 gw596 dX1_cut_77) (by decide)) (show 10 < 13 by decide) dX1_cut_80) (JS.seq (pc1 := 105) (JS.is2 (pc1 := 103) (JX.ite (l := 102) (pc1 := 88) (pc2 := 99) (pc3 := 103) (lend := 103) (CJ.ge_f (tgt := 102) (pc1 := 84) (pc2 := 85) (JX.il2 dX1_cut_82) (JX.il (k := 2) rfl dX1_cut_84) dX1_cut_85 rfl) (JX.call (pc1 := 96) decI_ok (JA.r (JX.getR (pc1 := 89) (c := 1) (k := 0) (i := 12) (JX.al (k := 0) rfl dX1_cut_88) cl1 (by decide) rfl fk1_12 dX1_cut_89) (JA.i (JX.isub (pc1 := 94) (pc2 := 95) (JX.il2 dX1_cut_92) (JX.il (k := 2) rfl dX1_cut_94) dX1_cut_95) JA.nil)) aX5_at (RunK.V (i := 34) (c := 5) (n := 1) cl5 rfl (CN nX5_at (by decide) (by decide)) gw932 gw595 gw596 dX1_cut_96) (by decide)) dX1_cut_99 rfl (JX.ic (n := 0) rfl dX1_cut_102) (Or.inl rfl)) (show 11 < 13 by decide) dX1_cut_103) (JS.seq (pc1 := 127) (JS.is2 (pc1 := 125) (JX.call (pc1 := 122) decI_ok (JA.i (JX.isub (pc1 := 113) (pc2 := 118) (JX.iadd (pc1 := 110) (pc2 := 112) (JX.imul (pc1 := 107) (pc2 := 109) (JX.bp (n := 31) kb31 dX1_cut_105) (JX.il2 dX1_cut_107) dX1_cut_109) (JX.il2 dX1_cut_110) dX1_cut_112) (JX.imul (pc1 := 115) (pc2 := 117) (JX.il2 dX1_cut_113) (JX.il2 dX1_cut_115) dX1_cut_117) dX1_cut_118) (JA.i (JX.sp (n := 1009) ks1009 dX1_cut_119) JA.nil)) aJ9_floorMod_7cf53 (RunK.S (i := 37) (n := 2) (CN nJ9_floorMod_7cf53 (by decide) (by decide)) gw933 gw891 dX1_cut_122) (by decide)) (show 7 < 13 by decide) dX1_cut_125) (JS.seq (pc1 := 130) (JS.inc (n := 1) rfl (show 8 < 13 by decide) dX1_cut_127) (JS.seq (pc1 := 158) (JS.is2 (pc1 := 156) (JX.ite (l := 155) (pc1 := 151) (pc2 := 152) (pc3 := 156) (lend := 156) (CJ.or_f (l := 151) (pc1 := 137) (CJ.ge_t (tgt := 151) (pc1 := 132) (pc2 := 134) (JX.il2 dX1_cut_130) (JX.il2 dX1_cut_132) dX1_cut_134 rfl) (CJ.eq_f (tgt := 155) (pc1 := 139) (pc2 := 148) (JX.il2 dX1_cut_137) (JX.isub (pc1 := 146) (pc2 := 147) (JX.call (pc1 := 143) decI_ok (JA.r (JX.getR (pc1 := 140) (c := 1) (k := 0) (i := 12) (JX.al (k := 0) rfl dX1_cut_139) cl1 (by decide) rfl fk1_12 dX1_cut_140) JA.nil) aX5_size (RunK.V (i := 30) (c := 5) (n := 0) cl5 rfl (CN nX5_size (by decide) (by decide)) gw931 gw587 gw588 dX1_cut_143) (by decide)) (JX.ic (n := 1) rfl dX1_cut_146) dX1_cut_147) dX1_cut_148 rfl) (Or.inl rfl)) (JX.ic (n := 1) rfl dX1_cut_151) dX1_cut_152 rfl (JX.ic (n := 0) rfl dX1_cut_155) (Or.inl rfl)) (show 12 < 13 by decide) dX1_cut_156) (JS.iff (l := 198) (pc1 := 184) (CJ.or_f (l := 184) (pc1 := 163) (CJ.ne0_t (tgt := 184) (pc1 := 160) (JX.il2 dX1_cut_158) dX1_cut_160 rfl) (CJ.and_f (pc1 := 170) (CJ.ge_f (tgt := 198) (pc1 := 165) (pc2 := 167) (JX.il2 dX1_cut_163) (JX.il2 dX1_cut_165) dX1_cut_167 rfl) (CJ.ne0_f (tgt := 198) (pc1 := 181) (JX.call (pc1 := 178) decI_ok (JA.r (JX.al (k := 1) rfl dX1_cut_170) (JA.i (JX.il (k := 3) rfl dX1_cut_171) (JA.i (JX.il2 dX1_cut_172) (JA.i (JX.il2 dX1_cut_174) (JA.i (JX.il2 dX1_cut_176) JA.nil))))) aX6_isBorder (RunK.V (i := 43) (c := 6) (n := 4) cl6 rfl (CN nX6_isBorder (by decide) (by decide)) gw934 gw935 gw936 dX1_cut_178) (by decide)) dX1_cut_181 rfl)) (Or.inl rfl)) (JS.seq (pc1 := 195) (JS.call (pc1 := 192) (JA.r (JX.getR (pc1 := 185) (c := 1) (k := 1) (i := 18) (JX.al (k := 0) rfl dX1_cut_184) cl1 (by decide) rfl fk1_18 dX1_cut_185) (JA.i (JX.iadd (pc1 := 190) (pc2 := 191) (JX.il2 dX1_cut_188) (JX.ic (n := 1) rfl dX1_cut_190) dX1_cut_191) JA.nil)) aX5_add (RunK.V (i := 47) (c := 5) (n := 1) cl5 rfl (CN nX5_add (by decide) (by decide)) gw939 gw121 gw122 dX1_cut_192)) (JS.is2 (pc1 := 196) (JX.ic (n := 0) rfl dX1_cut_195) (show 8 < 13 by decide) dX1_cut_196)) (Or.inl rfl)))))))) (JS.inc (n := 1) rfl (show 9 < 13 by decide) dX1_cut_198)) dX1_cut_201 rfl (Or.inl rfl) (Or.inl rfl)))) (JS.retV dX1_cut_204)))))))))
def mX1_cut : MS := runM 13 none bX1_cut
theorem aX1_cut : MA yX1_cut cX1_cut 13 none 5 mX1_cut := MA.of (plainFor_of_name (by decide)) jX1_cut
theorem eX1_cut (a0 : Nat) (a1 : Nat) (a2 : Int32) (a3 : Int32) (h : AH) : mX1_cut [.ref a0, .ref a1, .int a2, .int a3] h = (bX1_cut [.val (.ref a0), .val (.ref a1), .val (.int a2), .val (.int a3), .unset, .unset, .unset, .unset, .unset, .unset, .unset, .unset, .unset] h).bind (finM none) := rfl
/-! Vault.cutFile -/
theorem dX10_cutFile_0 : decode cX10_cutFile 0 = .ok (.aload_n 0, 1) := by decide +kernel
theorem dX10_cutFile_1 : decode cX10_cutFile 1 = .ok (.getfield 21, 3) := by decide +kernel
theorem dX10_cutFile_4 : decode cX10_cutFile 4 = .ok (.aload_n 0, 1) := by decide +kernel
theorem dX10_cutFile_5 : decode cX10_cutFile 5 = .ok (.getfield 12, 3) := by decide +kernel
theorem dX10_cutFile_8 : decode cX10_cutFile 8 = .ok (.aload_n 0, 1) := by decide +kernel
theorem dX10_cutFile_9 : decode cX10_cutFile 9 = .ok (.getfield 12, 3) := by decide +kernel
theorem dX10_cutFile_12 : decode cX10_cutFile 12 = .ok (.iconst 1, 1) := by decide +kernel
theorem dX10_cutFile_13 : decode cX10_cutFile 13 = .ok (.invokevirtual 147, 3) := by decide +kernel
theorem dX10_cutFile_16 : decode cX10_cutFile 16 = .ok (.aload_n 0, 1) := by decide +kernel
theorem dX10_cutFile_17 : decode cX10_cutFile 17 = .ok (.getfield 64, 3) := by decide +kernel
theorem dX10_cutFile_20 : decode cX10_cutFile 20 = .ok (.getfield 150, 3) := by decide +kernel
theorem dX10_cutFile_23 : decode cX10_cutFile 23 = .ok (.invokevirtual 153, 3) := by decide +kernel
theorem dX10_cutFile_26 : decode cX10_cutFile 26 = .ok (.return_, 1) := by decide +kernel
abbrev MX10_cutFile : MI := (RX10, cX10_cutFile, 1, 6, false)
def bX10_cutFile : St := (seqS (calS (ckV 1 3) mX1_cut (agC va_rf (getR 10 1 (lvR 0)) (agC va_rf (getR 10 0 (lvR 0)) (agC Value.int (calX decI (ckV 6 1) mX6_number (agC va_rf (getR 10 0 (lvR 0)) (agC Value.int (ciI (iI 1)) agN))) (agC Value.int (getI 9 10 (getR 10 10 (lvR 0))) agN))))) retV)
theorem jX10_cutFile : JS MX10_cutFile 0 0 0 27 [] bX10_cutFile :=
  (JS.seq (pc1 := 26) (JS.call (pc1 := 23) (JA.r (JX.getR (pc1 := 1) (c := 10) (k := 1) (i := 21) (JX.al (k := 0) rfl dX10_cutFile_0) cl10 (by decide) rfl fk10_21 dX10_cutFile_1) (JA.r (JX.getR (pc1 := 5) (c := 10) (k := 0) (i := 12) (JX.al (k := 0) rfl dX10_cutFile_4) cl10 (by decide) rfl fk10_12 dX10_cutFile_5) (JA.i (JX.call (pc1 := 13) decI_ok (JA.r (JX.getR (pc1 := 9) (c := 10) (k := 0) (i := 12) (JX.al (k := 0) rfl dX10_cutFile_8) cl10 (by decide) rfl fk10_12 dX10_cutFile_9) (JA.i (JX.ic (n := 1) rfl dX10_cutFile_12) JA.nil)) aX6_number (RunK.V (i := 147) (c := 6) (n := 1) cl6 rfl (CN nX6_number (by decide) (by decide)) gw779 gw762 gw763 dX10_cutFile_13) (by decide)) (JA.i (JX.getI (pc1 := 20) (c := 9) (k := 10) (i := 150) (JX.getR (pc1 := 17) (c := 10) (k := 10) (i := 64) (JX.al (k := 0) rfl dX10_cutFile_16) cl10 (by decide) rfl fk10_64 dX10_cutFile_17) cl9 (by decide) rfl fk10_150 dX10_cutFile_20) JA.nil)))) aX1_cut (RunK.V (i := 153) (c := 1) (n := 3) cl1 rfl (CN nX1_cut (by decide) (by decide)) gw925 gw926 gw927 dX10_cutFile_23)) (JS.retV dX10_cutFile_26))
def mX10_cutFile : MS := runM 1 none bX10_cutFile
theorem aX10_cutFile : MA yX10_cutFile cX10_cutFile 1 none 6 mX10_cutFile := MA.of (plainFor_of_name (by decide)) jX10_cutFile
theorem eX10_cutFile (a0 : Nat) (h : AH) : mX10_cutFile [.ref a0] h = (bX10_cutFile [.val (.ref a0)] h).bind (finM none) := rfl
/-! PieceStore.cuts -/
theorem dX11_cuts_0 : decode cX11_cuts 0 = .ok (.aload_n 0, 1) := by decide +kernel
theorem dX11_cuts_1 : decode cX11_cuts 1 = .ok (.invokevirtual 212, 3) := by decide +kernel
theorem dX11_cuts_4 : decode cX11_cuts 4 = .ok (.ifCond .ne 9, 3) := by decide +kernel
theorem dX11_cuts_7 : decode cX11_cuts 7 = .ok (.aload_n 0, 1) := by decide +kernel
theorem dX11_cuts_8 : decode cX11_cuts 8 = .ok (.iconst 3, 1) := by decide +kernel
theorem dX11_cuts_9 : decode cX11_cuts 9 = .ok (.invokevirtual 73, 3) := by decide +kernel
theorem dX11_cuts_12 : decode cX11_cuts 12 = .ok (.ireturn, 1) := by decide +kernel
theorem dX11_cuts_13 : decode cX11_cuts 13 = .ok (.aload_n 0, 1) := by decide +kernel
theorem dX11_cuts_14 : decode cX11_cuts 14 = .ok (.getfield 29, 3) := by decide +kernel
theorem dX11_cuts_17 : decode cX11_cuts 17 = .ok (.invokevirtual 216, 3) := by decide +kernel
theorem dX11_cuts_20 : decode cX11_cuts 20 = .ok (.iload_n 1, 1) := by decide +kernel
theorem dX11_cuts_21 : decode cX11_cuts 21 = .ok (.iconst (-1), 1) := by decide +kernel
theorem dX11_cuts_22 : decode cX11_cuts 22 = .ok (.if_icmp .ne 14, 3) := by decide +kernel
theorem dX11_cuts_25 : decode cX11_cuts 25 = .ok (.aload_n 0, 1) := by decide +kernel
theorem dX11_cuts_26 : decode cX11_cuts 26 = .ok (.getfield 29, 3) := by decide +kernel
theorem dX11_cuts_29 : decode cX11_cuts 29 = .ok (.getfield 203, 3) := by decide +kernel
theorem dX11_cuts_32 : decode cX11_cuts 32 = .ok (.invokevirtual 219, 3) := by decide +kernel
theorem dX11_cuts_35 : decode cX11_cuts 35 = .ok (.ireturn, 1) := by decide +kernel
theorem dX11_cuts_36 : decode cX11_cuts 36 = .ok (.aload_n 0, 1) := by decide +kernel
theorem dX11_cuts_37 : decode cX11_cuts 37 = .ok (.getfield 29, 3) := by decide +kernel
theorem dX11_cuts_40 : decode cX11_cuts 40 = .ok (.getfield 203, 3) := by decide +kernel
theorem dX11_cuts_43 : decode cX11_cuts 43 = .ok (.iload_n 1, 1) := by decide +kernel
theorem dX11_cuts_44 : decode cX11_cuts 44 = .ok (.invokevirtual 222, 3) := by decide +kernel
theorem dX11_cuts_47 : decode cX11_cuts 47 = .ok (.istore_n 2, 1) := by decide +kernel
theorem dX11_cuts_48 : decode cX11_cuts 48 = .ok (.iload_n 2, 1) := by decide +kernel
theorem dX11_cuts_49 : decode cX11_cuts 49 = .ok (.ifCond .le 7, 3) := by decide +kernel
theorem dX11_cuts_52 : decode cX11_cuts 52 = .ok (.iload_n 2, 1) := by decide +kernel
theorem dX11_cuts_53 : decode cX11_cuts 53 = .ok (.goto 4, 3) := by decide +kernel
theorem dX11_cuts_56 : decode cX11_cuts 56 = .ok (.iconst (-1), 1) := by decide +kernel
theorem dX11_cuts_57 : decode cX11_cuts 57 = .ok (.ireturn, 1) := by decide +kernel
abbrev MX11_cuts : MI := (RX11, cX11_cuts, 3, 7, false)
def bX11_cuts : St := (seqS (ifS (notX (ne0 (calX decI (ckV 11 0) mX11_takeFile (agC va_rf (lvR 0) agN)))) (retI (calX decI (ckV 11 1) mX11_refuse (agC va_rf (lvR 0) (agC Value.int (ciI (iI 3)) agN))))) (seqS (calS (ckV 10 0) mX10_cutFile (agC va_rf (getR 11 3 (lvR 0)) agN)) (seqS (ifS (eqI (lvI 1) (ciI (iI (-1)))) (retI (calX decI (ckV 1 0) mX1_count (agC va_rf (getR 10 1 (getR 11 3 (lvR 0))) agN)))) (seqS (lsI 2 (calX decI (ckV 1 1) mX1_lengthOf (agC va_rf (getR 10 1 (getR 11 3 (lvR 0))) (agC Value.int (lvI 1) agN)))) (retI (iteX (gt0 (lvI 2)) (lvI 2) (ciI (iI (-1)))))))))
theorem jX11_cuts : JS MX11_cuts 0 0 0 58 [] bX11_cuts :=
  (JS.seq (pc1 := 13) (JS.iff (l := 13) (pc1 := 7) (CJ.not_f (CJ.ne0_t (tgt := 13) (pc1 := 4) (JX.call (pc1 := 1) decI_ok (JA.r (JX.al (k := 0) rfl dX11_cuts_0) JA.nil) aX11_takeFile (RunK.V (i := 212) (c := 11) (n := 0) cl11 rfl (CN nX11_takeFile (by decide) (by decide)) gw911 gw913 gs33 dX11_cuts_1) (by decide)) dX11_cuts_4 rfl)) (JS.retI (pc1 := 12) (JX.call (pc1 := 9) decI_ok (JA.r (JX.al (k := 0) rfl dX11_cuts_7) (JA.i (JX.ic (n := 3) rfl dX11_cuts_8) JA.nil)) aX11_refuse (RunK.V (i := 73) (c := 11) (n := 1) cl11 rfl (CN nX11_refuse (by decide) (by decide)) gw590 gw592 gs1 dX11_cuts_9) (by decide)) dX11_cuts_12) (Or.inl rfl)) (JS.seq (pc1 := 20) (JS.call (pc1 := 17) (JA.r (JX.getR (pc1 := 14) (c := 11) (k := 3) (i := 29) (JX.al (k := 0) rfl dX11_cuts_13) cl11 (by decide) rfl fk11_29 dX11_cuts_14) JA.nil) aX10_cutFile (RunK.V (i := 216) (c := 10) (n := 0) cl10 rfl (CN nX10_cutFile (by decide) (by decide)) gw921 gw922 gw923 dX11_cuts_17)) (JS.seq (pc1 := 36) (JS.iff (l := 36) (pc1 := 25) (CJ.eq_f (tgt := 36) (pc1 := 21) (pc2 := 22) (JX.il (k := 1) rfl dX11_cuts_20) (JX.ic (n := (-1)) rfl dX11_cuts_21) dX11_cuts_22 rfl) (JS.retI (pc1 := 35) (JX.call (pc1 := 32) decI_ok (JA.r (JX.getR (pc1 := 29) (c := 10) (k := 1) (i := 203) (JX.getR (pc1 := 26) (c := 11) (k := 3) (i := 29) (JX.al (k := 0) rfl dX11_cuts_25) cl11 (by decide) rfl fk11_29 dX11_cuts_26) cl10 (by decide) rfl fk11_203 dX11_cuts_29) JA.nil) aX1_count (RunK.V (i := 219) (c := 1) (n := 0) cl1 rfl (CN nX1_count (by decide) (by decide)) gw940 gw941 gw942 dX11_cuts_32) (by decide)) dX11_cuts_35) (Or.inl rfl)) (JS.seq (pc1 := 48) (JS.is (pc1 := 47) (k := 2) (JX.call (pc1 := 44) decI_ok (JA.r (JX.getR (pc1 := 40) (c := 10) (k := 1) (i := 203) (JX.getR (pc1 := 37) (c := 11) (k := 3) (i := 29) (JX.al (k := 0) rfl dX11_cuts_36) cl11 (by decide) rfl fk11_29 dX11_cuts_37) cl10 (by decide) rfl fk11_203 dX11_cuts_40) (JA.i (JX.il (k := 1) rfl dX11_cuts_43) JA.nil)) aX1_lengthOf (RunK.V (i := 222) (c := 1) (n := 1) cl1 rfl (CN nX1_lengthOf (by decide) (by decide)) gw944 gw945 gw946 dX11_cuts_44) (by decide)) rfl (show 2 < 3 by decide) dX11_cuts_47) (JS.retI (pc1 := 57) (JX.ite (l := 56) (pc1 := 52) (pc2 := 53) (pc3 := 57) (lend := 57) (CJ.gt0_f (tgt := 56) (pc1 := 49) (JX.il (k := 2) rfl dX11_cuts_48) dX11_cuts_49 rfl) (JX.il (k := 2) rfl dX11_cuts_52) dX11_cuts_53 rfl (JX.ic (n := (-1)) rfl dX11_cuts_56) (Or.inl rfl)) dX11_cuts_57)))))
def mX11_cuts : MS := runM 3 (some (.int)) bX11_cuts
theorem aX11_cuts : MA yX11_cuts cX11_cuts 3 (some (.int)) 7 mX11_cuts := MA.of (plainFor_of_name (by decide)) jX11_cuts
theorem eX11_cuts (a0 : Nat) (a1 : Int32) (h : AH) : mX11_cuts [.ref a0, .int a1] h = (bX11_cuts [.val (.ref a0), .val (.int a1), .unset] h).bind (finM (some (.int))) := rfl
/-! Vault.bytesWith -/
theorem dX10_bytesWith_0 : decode cX10_bytesWith 0 = .ok (.aload_n 0, 1) := by decide +kernel
theorem dX10_bytesWith_1 : decode cX10_bytesWith 1 = .ok (.getfield 55, 3) := by decide +kernel
theorem dX10_bytesWith_4 : decode cX10_bytesWith 4 = .ok (.aload_n 0, 1) := by decide +kernel
theorem dX10_bytesWith_5 : decode cX10_bytesWith 5 = .ok (.getfield 64, 3) := by decide +kernel
theorem dX10_bytesWith_8 : decode cX10_bytesWith 8 = .ok (.getfield 121, 3) := by decide +kernel
theorem dX10_bytesWith_11 : decode cX10_bytesWith 11 = .ok (.invokevirtual 157, 3) := by decide +kernel
theorem dX10_bytesWith_14 : decode cX10_bytesWith 14 = .ok (.iconst 0, 1) := by decide +kernel
theorem dX10_bytesWith_15 : decode cX10_bytesWith 15 = .ok (.invokevirtual 107, 3) := by decide +kernel
theorem dX10_bytesWith_18 : decode cX10_bytesWith 18 = .ok (.aload_n 0, 1) := by decide +kernel
theorem dX10_bytesWith_19 : decode cX10_bytesWith 19 = .ok (.iload_n 2, 1) := by decide +kernel
theorem dX10_bytesWith_20 : decode cX10_bytesWith 20 = .ok (.invokevirtual 161, 3) := by decide +kernel
theorem dX10_bytesWith_23 : decode cX10_bytesWith 23 = .ok (.iconst 0, 1) := by decide +kernel
theorem dX10_bytesWith_24 : decode cX10_bytesWith 24 = .ok (.istore_n 3, 1) := by decide +kernel
theorem dX10_bytesWith_25 : decode cX10_bytesWith 25 = .ok (.iconst 0, 1) := by decide +kernel
theorem dX10_bytesWith_26 : decode cX10_bytesWith 26 = .ok (.istore 4, 2) := by decide +kernel
theorem dX10_bytesWith_28 : decode cX10_bytesWith 28 = .ok (.iload 4, 2) := by decide +kernel
theorem dX10_bytesWith_30 : decode cX10_bytesWith 30 = .ok (.aload_n 0, 1) := by decide +kernel
theorem dX10_bytesWith_31 : decode cX10_bytesWith 31 = .ok (.getfield 64, 3) := by decide +kernel
theorem dX10_bytesWith_34 : decode cX10_bytesWith 34 = .ok (.getfield 111, 3) := by decide +kernel
theorem dX10_bytesWith_37 : decode cX10_bytesWith 37 = .ok (.iload_n 1, 1) := by decide +kernel
theorem dX10_bytesWith_38 : decode cX10_bytesWith 38 = .ok (.invokevirtual 114, 3) := by decide +kernel
theorem dX10_bytesWith_41 : decode cX10_bytesWith 41 = .ok (.if_icmp .ge 44, 3) := by decide +kernel
theorem dX10_bytesWith_44 : decode cX10_bytesWith 44 = .ok (.aload_n 0, 1) := by decide +kernel
theorem dX10_bytesWith_45 : decode cX10_bytesWith 45 = .ok (.iload_n 1, 1) := by decide +kernel
theorem dX10_bytesWith_46 : decode cX10_bytesWith 46 = .ok (.iload 4, 2) := by decide +kernel
theorem dX10_bytesWith_48 : decode cX10_bytesWith 48 = .ok (.invokevirtual 133, 3) := by decide +kernel
theorem dX10_bytesWith_51 : decode cX10_bytesWith 51 = .ok (.istore 5, 2) := by decide +kernel
theorem dX10_bytesWith_53 : decode cX10_bytesWith 53 = .ok (.iload_n 3, 1) := by decide +kernel
theorem dX10_bytesWith_54 : decode cX10_bytesWith 54 = .ok (.aload_n 0, 1) := by decide +kernel
theorem dX10_bytesWith_55 : decode cX10_bytesWith 55 = .ok (.getfield 55, 3) := by decide +kernel
theorem dX10_bytesWith_58 : decode cX10_bytesWith 58 = .ok (.iload 5, 2) := by decide +kernel
theorem dX10_bytesWith_60 : decode cX10_bytesWith 60 = .ok (.invokevirtual 114, 3) := by decide +kernel
theorem dX10_bytesWith_63 : decode cX10_bytesWith 63 = .ok (.iconst 1, 1) := by decide +kernel
theorem dX10_bytesWith_64 : decode cX10_bytesWith 64 = .ok (.if_icmp .ne 12, 3) := by decide +kernel
theorem dX10_bytesWith_67 : decode cX10_bytesWith 67 = .ok (.aload_n 0, 1) := by decide +kernel
theorem dX10_bytesWith_68 : decode cX10_bytesWith 68 = .ok (.iload 5, 2) := by decide +kernel
theorem dX10_bytesWith_70 : decode cX10_bytesWith 70 = .ok (.invokevirtual 137, 3) := by decide +kernel
theorem dX10_bytesWith_73 : decode cX10_bytesWith 73 = .ok (.goto 4, 3) := by decide +kernel
theorem dX10_bytesWith_76 : decode cX10_bytesWith 76 = .ok (.iconst 0, 1) := by decide +kernel
theorem dX10_bytesWith_77 : decode cX10_bytesWith 77 = .ok (.iadd, 1) := by decide +kernel
theorem dX10_bytesWith_78 : decode cX10_bytesWith 78 = .ok (.istore_n 3, 1) := by decide +kernel
theorem dX10_bytesWith_79 : decode cX10_bytesWith 79 = .ok (.iinc 4 1, 3) := by decide +kernel
theorem dX10_bytesWith_82 : decode cX10_bytesWith 82 = .ok (.goto (-54), 3) := by decide +kernel
theorem dX10_bytesWith_85 : decode cX10_bytesWith 85 = .ok (.iload_n 3, 1) := by decide +kernel
theorem dX10_bytesWith_86 : decode cX10_bytesWith 86 = .ok (.ireturn, 1) := by decide +kernel
abbrev MX10_bytesWith : MI := (RX10, cX10_bytesWith, 6, 4, false)
def lcX10_bytesWith_1 : Ex Bool := (ltI (lvI 4) (calX decI (ckV 5 1) mX5_at (agC va_rf (getR 9 9 (getR 10 10 (lvR 0))) (agC Value.int (lvI 1) agN))))
def lbX10_bytesWith_1 : St := (forB (scS 5 (seqS (lsI 5 (calX decI (ckV 10 2) mX10_spotOf (agC va_rf (lvR 0) (agC Value.int (lvI 1) (agC Value.int (lvI 4) agN))))) (lsI 3 (addI (lvI 3) (iteX (eqI (calX decI (ckV 5 1) mX5_at (agC va_rf (getR 10 8 (lvR 0)) (agC Value.int (lvI 5) agN))) (ciI (iI 1))) (calX decI (ckV 10 1) mX10_lengthAt (agC va_rf (lvR 0) (agC Value.int (lvI 5) agN))) (ciI (iI 0))))))) (incI 4 (iI 1)))
def bX10_bytesWith : St := (seqS (calS (ckV 5 2) mX5_fill (agC va_rf (getR 10 8 (lvR 0)) (agC Value.int (calX decI (ckV 5 0) mX5_size (agC va_rf (getR 9 0 (getR 10 10 (lvR 0))) agN)) (agC Value.int (ciI (iI 0)) agN)))) (seqS (calS (ckV 10 1) mX10_markPieces (agC va_rf (lvR 0) (agC Value.int (lvI 2) agN))) (seqS (lsI 3 (ciI (iI 0))) (seqS (scS 4 (seqS (lsI 4 (ciI (iI 0))) (whileS lcX10_bytesWith_1 lbX10_bytesWith_1))) (retI (lvI 3))))))
theorem jX10_bytesWith : JS MX10_bytesWith 0 0 0 87 [] bX10_bytesWith :=
  (JS.seq (pc1 := 18) (JS.call (pc1 := 15) (JA.r (JX.getR (pc1 := 1) (c := 10) (k := 8) (i := 55) (JX.al (k := 0) rfl dX10_bytesWith_0) cl10 (by decide) rfl fk10_55 dX10_bytesWith_1) (JA.i (JX.call (pc1 := 11) decI_ok (JA.r (JX.getR (pc1 := 8) (c := 9) (k := 0) (i := 121) (JX.getR (pc1 := 5) (c := 10) (k := 10) (i := 64) (JX.al (k := 0) rfl dX10_bytesWith_4) cl10 (by decide) rfl fk10_64 dX10_bytesWith_5) cl9 (by decide) rfl fk10_121 dX10_bytesWith_8) JA.nil) aX5_size (RunK.V (i := 157) (c := 5) (n := 0) cl5 rfl (CN nX5_size (by decide) (by decide)) gw788 gw587 gw588 dX10_bytesWith_11) (by decide)) (JA.i (JX.ic (n := 0) rfl dX10_bytesWith_14) JA.nil))) aX5_fill (RunK.V (i := 107) (c := 5) (n := 2) cl5 rfl (CN nX5_fill (by decide) (by decide)) gw431 gw200 gw201 dX10_bytesWith_15)) (JS.seq (pc1 := 23) (JS.call (pc1 := 20) (JA.r (JX.al (k := 0) rfl dX10_bytesWith_18) (JA.i (JX.il (k := 2) rfl dX10_bytesWith_19) JA.nil)) aX10_markPieces (RunK.V (i := 161) (c := 10) (n := 1) cl10 rfl (CN nX10_markPieces (by decide) (by decide)) gw789 gw791 gs30 dX10_bytesWith_20)) (JS.seq (pc1 := 25) (JS.is (pc1 := 24) (k := 3) (JX.ic (n := 0) rfl dX10_bytesWith_23) rfl (show 3 < 6 by decide) dX10_bytesWith_24) (JS.seq (pc1 := 85) (JS.sc (JS.seq (pc1 := 28) (JS.is2 (pc1 := 26) (JX.ic (n := 0) rfl dX10_bytesWith_25) (show 4 < 6 by decide) dX10_bytesWith_26) (JS.while (l := 85) (lb := 85) (pc1 := 44) (pc2 := 82) (pc3 := 85) (CJ.lt_f (tgt := 85) (pc1 := 30) (pc2 := 41) (JX.il2 dX10_bytesWith_28) (JX.call (pc1 := 38) decI_ok (JA.r (JX.getR (pc1 := 34) (c := 9) (k := 9) (i := 111) (JX.getR (pc1 := 31) (c := 10) (k := 10) (i := 64) (JX.al (k := 0) rfl dX10_bytesWith_30) cl10 (by decide) rfl fk10_64 dX10_bytesWith_31) cl9 (by decide) rfl fk10_111 dX10_bytesWith_34) (JA.i (JX.il (k := 1) rfl dX10_bytesWith_37) JA.nil)) aX5_at (RunK.V (i := 114) (c := 5) (n := 1) cl5 rfl (CN nX5_at (by decide) (by decide)) gw774 gw595 gw596 dX10_bytesWith_38) (by decide)) dX10_bytesWith_41 rfl) (JS.forb (pc1 := 79) (JS.sc (JS.seq (pc1 := 53) (JS.is2 (pc1 := 51) (JX.call (pc1 := 48) decI_ok (JA.r (JX.al (k := 0) rfl dX10_bytesWith_44) (JA.i (JX.il (k := 1) rfl dX10_bytesWith_45) (JA.i (JX.il2 dX10_bytesWith_46) JA.nil))) aX10_spotOf (RunK.V (i := 133) (c := 10) (n := 2) cl10 rfl (CN nX10_spotOf (by decide) (by decide)) gw793 gw794 gw795 dX10_bytesWith_48) (by decide)) (show 5 < 6 by decide) dX10_bytesWith_51) (JS.is (pc1 := 78) (k := 3) (JX.iadd (pc1 := 54) (pc2 := 77) (JX.il (k := 3) rfl dX10_bytesWith_53) (JX.ite (l := 76) (pc1 := 67) (pc2 := 73) (pc3 := 77) (lend := 77) (CJ.eq_f (tgt := 76) (pc1 := 63) (pc2 := 64) (JX.call (pc1 := 60) decI_ok (JA.r (JX.getR (pc1 := 55) (c := 10) (k := 8) (i := 55) (JX.al (k := 0) rfl dX10_bytesWith_54) cl10 (by decide) rfl fk10_55 dX10_bytesWith_55) (JA.i (JX.il2 dX10_bytesWith_58) JA.nil)) aX5_at (RunK.V (i := 114) (c := 5) (n := 1) cl5 rfl (CN nX5_at (by decide) (by decide)) gw774 gw595 gw596 dX10_bytesWith_60) (by decide)) (JX.ic (n := 1) rfl dX10_bytesWith_63) dX10_bytesWith_64 rfl) (JX.call (pc1 := 70) decI_ok (JA.r (JX.al (k := 0) rfl dX10_bytesWith_67) (JA.i (JX.il2 dX10_bytesWith_68) JA.nil)) aX10_lengthAt (RunK.V (i := 137) (c := 10) (n := 1) cl10 rfl (CN nX10_lengthAt (by decide) (by decide)) gw813 gw814 gw815 dX10_bytesWith_70) (by decide)) dX10_bytesWith_73 rfl (JX.ic (n := 0) rfl dX10_bytesWith_76) (Or.inl rfl)) dX10_bytesWith_77) rfl (show 3 < 6 by decide) dX10_bytesWith_78))) (JS.inc (n := 1) rfl (show 4 < 6 by decide) dX10_bytesWith_79)) dX10_bytesWith_82 rfl (Or.inl rfl) (Or.inl rfl)))) (JS.retI (pc1 := 86) (JX.il (k := 3) rfl dX10_bytesWith_85) dX10_bytesWith_86)))))
def mX10_bytesWith : MS := runM 6 (some (.int)) bX10_bytesWith
theorem aX10_bytesWith : MA yX10_bytesWith cX10_bytesWith 6 (some (.int)) 4 mX10_bytesWith := MA.of (plainFor_of_name (by decide)) jX10_bytesWith
theorem eX10_bytesWith (a0 : Nat) (a1 : Int32) (a2 : Int32) (h : AH) : mX10_bytesWith [.ref a0, .int a1, .int a2] h = (bX10_bytesWith [.val (.ref a0), .val (.int a1), .val (.int a2), .unset, .unset, .unset] h).bind (finM (some (.int))) := rfl
/-! PieceStore.shared -/
theorem dX11_shared_0 : decode cX11_shared 0 = .ok (.aload_n 0, 1) := by decide +kernel
theorem dX11_shared_1 : decode cX11_shared 1 = .ok (.getfield 29, 3) := by decide +kernel
theorem dX11_shared_4 : decode cX11_shared 4 = .ok (.iload_n 1, 1) := by decide +kernel
theorem dX11_shared_5 : decode cX11_shared 5 = .ok (.invokevirtual 154, 3) := by decide +kernel
theorem dX11_shared_8 : decode cX11_shared 8 = .ok (.ifCond .eq 14, 3) := by decide +kernel
theorem dX11_shared_11 : decode cX11_shared 11 = .ok (.aload_n 0, 1) := by decide +kernel
theorem dX11_shared_12 : decode cX11_shared 12 = .ok (.getfield 29, 3) := by decide +kernel
theorem dX11_shared_15 : decode cX11_shared 15 = .ok (.iload_n 2, 1) := by decide +kernel
theorem dX11_shared_16 : decode cX11_shared 16 = .ok (.invokevirtual 154, 3) := by decide +kernel
theorem dX11_shared_19 : decode cX11_shared 19 = .ok (.ifCond .ne 5, 3) := by decide +kernel
theorem dX11_shared_22 : decode cX11_shared 22 = .ok (.iconst (-1), 1) := by decide +kernel
theorem dX11_shared_23 : decode cX11_shared 23 = .ok (.ireturn, 1) := by decide +kernel
theorem dX11_shared_24 : decode cX11_shared 24 = .ok (.aload_n 0, 1) := by decide +kernel
theorem dX11_shared_25 : decode cX11_shared 25 = .ok (.getfield 29, 3) := by decide +kernel
theorem dX11_shared_28 : decode cX11_shared 28 = .ok (.iload_n 1, 1) := by decide +kernel
theorem dX11_shared_29 : decode cX11_shared 29 = .ok (.iload_n 2, 1) := by decide +kernel
theorem dX11_shared_30 : decode cX11_shared 30 = .ok (.invokevirtual 225, 3) := by decide +kernel
theorem dX11_shared_33 : decode cX11_shared 33 = .ok (.ireturn, 1) := by decide +kernel
abbrev MX11_shared : MI := (RX11, cX11_shared, 3, 5, false)
def bX11_shared : St := (seqS (ifS (orX (notX (ne0 (calX decI (ckV 10 1) mX10_hasBackup (agC va_rf (getR 11 3 (lvR 0)) (agC Value.int (lvI 1) agN))))) (notX (ne0 (calX decI (ckV 10 1) mX10_hasBackup (agC va_rf (getR 11 3 (lvR 0)) (agC Value.int (lvI 2) agN)))))) (retI (ciI (iI (-1))))) (retI (calX decI (ckV 10 2) mX10_bytesWith (agC va_rf (getR 11 3 (lvR 0)) (agC Value.int (lvI 1) (agC Value.int (lvI 2) agN))))))
theorem jX11_shared : JS MX11_shared 0 0 0 34 [] bX11_shared :=
  (JS.seq (pc1 := 24) (JS.iff (l := 24) (pc1 := 22) (CJ.or_f (l := 22) (pc1 := 11) (CJ.not_t (CJ.ne0_f (tgt := 22) (pc1 := 8) (JX.call (pc1 := 5) decI_ok (JA.r (JX.getR (pc1 := 1) (c := 11) (k := 3) (i := 29) (JX.al (k := 0) rfl dX11_shared_0) cl11 (by decide) rfl fk11_29 dX11_shared_1) (JA.i (JX.il (k := 1) rfl dX11_shared_4) JA.nil)) aX10_hasBackup (RunK.V (i := 154) (c := 10) (n := 1) cl10 rfl (CN nX10_hasBackup (by decide) (by decide)) gw808 gw771 gw772 dX11_shared_5) (by decide)) dX11_shared_8 rfl)) (CJ.not_f (CJ.ne0_t (tgt := 24) (pc1 := 19) (JX.call (pc1 := 16) decI_ok (JA.r (JX.getR (pc1 := 12) (c := 11) (k := 3) (i := 29) (JX.al (k := 0) rfl dX11_shared_11) cl11 (by decide) rfl fk11_29 dX11_shared_12) (JA.i (JX.il (k := 2) rfl dX11_shared_15) JA.nil)) aX10_hasBackup (RunK.V (i := 154) (c := 10) (n := 1) cl10 rfl (CN nX10_hasBackup (by decide) (by decide)) gw808 gw771 gw772 dX11_shared_16) (by decide)) dX11_shared_19 rfl)) (Or.inl rfl)) (JS.retI (pc1 := 23) (JX.ic (n := (-1)) rfl dX11_shared_22) dX11_shared_23) (Or.inl rfl)) (JS.retI (pc1 := 33) (JX.call (pc1 := 30) decI_ok (JA.r (JX.getR (pc1 := 25) (c := 11) (k := 3) (i := 29) (JX.al (k := 0) rfl dX11_shared_24) cl11 (by decide) rfl fk11_29 dX11_shared_25) (JA.i (JX.il (k := 1) rfl dX11_shared_28) (JA.i (JX.il (k := 2) rfl dX11_shared_29) JA.nil))) aX10_bytesWith (RunK.V (i := 225) (c := 10) (n := 2) cl10 rfl (CN nX10_bytesWith (by decide) (by decide)) gw956 gw957 gw958 dX11_shared_30) (by decide)) dX11_shared_33))
def mX11_shared : MS := runM 3 (some (.int)) bX11_shared
theorem aX11_shared : MA yX11_shared cX11_shared 3 (some (.int)) 5 mX11_shared := MA.of (plainFor_of_name (by decide)) jX11_shared
theorem eX11_shared (a0 : Nat) (a1 : Int32) (a2 : Int32) (h : AH) : mX11_shared [.ref a0, .int a1, .int a2] h = (bX11_shared [.val (.ref a0), .val (.int a1), .val (.int a2)] h).bind (finM (some (.int))) := rfl
/-! Forms.isAt -/
theorem dX3_isAt_0 : decode cX3_isAt 0 = .ok (.iconst 0, 1) := by decide +kernel
theorem dX3_isAt_1 : decode cX3_isAt 1 = .ok (.istore 4, 2) := by decide +kernel
theorem dX3_isAt_3 : decode cX3_isAt 3 = .ok (.iload 4, 2) := by decide +kernel
theorem dX3_isAt_5 : decode cX3_isAt 5 = .ok (.aload_n 0, 1) := by decide +kernel
theorem dX3_isAt_6 : decode cX3_isAt 6 = .ok (.getfield 21, 3) := by decide +kernel
theorem dX3_isAt_9 : decode cX3_isAt 9 = .ok (.iload_n 1, 1) := by decide +kernel
theorem dX3_isAt_10 : decode cX3_isAt 10 = .ok (.invokevirtual 46, 3) := by decide +kernel
theorem dX3_isAt_13 : decode cX3_isAt 13 = .ok (.if_icmp .ge 40, 3) := by decide +kernel
theorem dX3_isAt_16 : decode cX3_isAt 16 = .ok (.aload_n 0, 1) := by decide +kernel
theorem dX3_isAt_17 : decode cX3_isAt 17 = .ok (.getfield 12, 3) := by decide +kernel
theorem dX3_isAt_20 : decode cX3_isAt 20 = .ok (.aload_n 0, 1) := by decide +kernel
theorem dX3_isAt_21 : decode cX3_isAt 21 = .ok (.getfield 18, 3) := by decide +kernel
theorem dX3_isAt_24 : decode cX3_isAt 24 = .ok (.iload_n 1, 1) := by decide +kernel
theorem dX3_isAt_25 : decode cX3_isAt 25 = .ok (.invokevirtual 46, 3) := by decide +kernel
theorem dX3_isAt_28 : decode cX3_isAt 28 = .ok (.iload 4, 2) := by decide +kernel
theorem dX3_isAt_30 : decode cX3_isAt 30 = .ok (.iadd, 1) := by decide +kernel
theorem dX3_isAt_31 : decode cX3_isAt 31 = .ok (.invokevirtual 46, 3) := by decide +kernel
theorem dX3_isAt_34 : decode cX3_isAt 34 = .ok (.aload_n 2, 1) := by decide +kernel
theorem dX3_isAt_35 : decode cX3_isAt 35 = .ok (.iload_n 3, 1) := by decide +kernel
theorem dX3_isAt_36 : decode cX3_isAt 36 = .ok (.iload 4, 2) := by decide +kernel
theorem dX3_isAt_38 : decode cX3_isAt 38 = .ok (.iadd, 1) := by decide +kernel
theorem dX3_isAt_39 : decode cX3_isAt 39 = .ok (.invokevirtual 46, 3) := by decide +kernel
theorem dX3_isAt_42 : decode cX3_isAt 42 = .ok (.if_icmp .eq 5, 3) := by decide +kernel
theorem dX3_isAt_45 : decode cX3_isAt 45 = .ok (.iconst 0, 1) := by decide +kernel
theorem dX3_isAt_46 : decode cX3_isAt 46 = .ok (.ireturn, 1) := by decide +kernel
theorem dX3_isAt_47 : decode cX3_isAt 47 = .ok (.iinc 4 1, 3) := by decide +kernel
theorem dX3_isAt_50 : decode cX3_isAt 50 = .ok (.goto (-47), 3) := by decide +kernel
theorem dX3_isAt_53 : decode cX3_isAt 53 = .ok (.iconst 1, 1) := by decide +kernel
theorem dX3_isAt_54 : decode cX3_isAt 54 = .ok (.ireturn, 1) := by decide +kernel
abbrev MX3_isAt : MI := (RX3, cX3_isAt, 5, 2, false)
def lcX3_isAt_1 : Ex Bool := (ltI (lvI 4) (calX decI (ckV 5 1) mX5_at (agC va_rf (getR 3 2 (lvR 0)) (agC Value.int (lvI 1) agN))))
def lbX3_isAt_1 : St := (forB (ifS (neI (calX decI (ckV 5 1) mX5_at (agC va_rf (getR 3 0 (lvR 0)) (agC Value.int (addI (calX decI (ckV 5 1) mX5_at (agC va_rf (getR 3 1 (lvR 0)) (agC Value.int (lvI 1) agN))) (lvI 4)) agN))) (calX decI (ckV 5 1) mX5_at (agC va_rf (lvR 2) (agC Value.int (addI (lvI 3) (lvI 4)) agN)))) (retI (ciI (iI 0)))) (incI 4 (iI 1)))
def bX3_isAt : St := (seqS (scS 4 (seqS (lsI 4 (ciI (iI 0))) (whileS lcX3_isAt_1 lbX3_isAt_1))) (retI (ciI (iI 1))))
theorem jX3_isAt : JS MX3_isAt 0 0 0 55 [] bX3_isAt :=
  (JS.seq (pc1 := 53) (JS.sc (JS.seq (pc1 := 3) (JS.is2 (pc1 := 1) (JX.ic (n := 0) rfl dX3_isAt_0) (show 4 < 5 by decide) dX3_isAt_1) (JS.while (l := 53) (lb := 53) (pc1 := 16) (pc2 := 50) (pc3 := 53) (CJ.lt_f (tgt := 53) (pc1 := 5) (pc2 := 13) (JX.il2 dX3_isAt_3) (JX.call (pc1 := 10) decI_ok (JA.r (JX.getR (pc1 := 6) (c := 3) (k := 2) (i := 21) (JX.al (k := 0) rfl dX3_isAt_5) cl3 (by decide) rfl fk3_21 dX3_isAt_6) (JA.i (JX.il (k := 1) rfl dX3_isAt_9) JA.nil)) aX5_at (RunK.V (i := 46) (c := 5) (n := 1) cl5 rfl (CN nX5_at (by decide) (by decide)) gw905 gw595 gw596 dX3_isAt_10) (by decide)) dX3_isAt_13 rfl) (JS.forb (pc1 := 47) (JS.iff (l := 47) (pc1 := 45) (CJ.ne_f (tgt := 47) (pc1 := 34) (pc2 := 42) (JX.call (pc1 := 31) decI_ok (JA.r (JX.getR (pc1 := 17) (c := 3) (k := 0) (i := 12) (JX.al (k := 0) rfl dX3_isAt_16) cl3 (by decide) rfl fk3_12 dX3_isAt_17) (JA.i (JX.iadd (pc1 := 28) (pc2 := 30) (JX.call (pc1 := 25) decI_ok (JA.r (JX.getR (pc1 := 21) (c := 3) (k := 1) (i := 18) (JX.al (k := 0) rfl dX3_isAt_20) cl3 (by decide) rfl fk3_18 dX3_isAt_21) (JA.i (JX.il (k := 1) rfl dX3_isAt_24) JA.nil)) aX5_at (RunK.V (i := 46) (c := 5) (n := 1) cl5 rfl (CN nX5_at (by decide) (by decide)) gw905 gw595 gw596 dX3_isAt_25) (by decide)) (JX.il2 dX3_isAt_28) dX3_isAt_30) JA.nil)) aX5_at (RunK.V (i := 46) (c := 5) (n := 1) cl5 rfl (CN nX5_at (by decide) (by decide)) gw905 gw595 gw596 dX3_isAt_31) (by decide)) (JX.call (pc1 := 39) decI_ok (JA.r (JX.al (k := 2) rfl dX3_isAt_34) (JA.i (JX.iadd (pc1 := 36) (pc2 := 38) (JX.il (k := 3) rfl dX3_isAt_35) (JX.il2 dX3_isAt_36) dX3_isAt_38) JA.nil)) aX5_at (RunK.V (i := 46) (c := 5) (n := 1) cl5 rfl (CN nX5_at (by decide) (by decide)) gw905 gw595 gw596 dX3_isAt_39) (by decide)) dX3_isAt_42 rfl) (JS.retI (pc1 := 46) (JX.ic (n := 0) rfl dX3_isAt_45) dX3_isAt_46) (Or.inl rfl)) (JS.inc (n := 1) rfl (show 4 < 5 by decide) dX3_isAt_47)) dX3_isAt_50 rfl (Or.inl rfl) (Or.inl rfl)))) (JS.retI (pc1 := 54) (JX.ic (n := 1) rfl dX3_isAt_53) dX3_isAt_54))
def mX3_isAt : MS := runM 5 (some (.boolean)) bX3_isAt
theorem aX3_isAt : MA yX3_isAt cX3_isAt 5 (some (.boolean)) 2 mX3_isAt := MA.of (plainFor_of_name (by decide)) jX3_isAt
theorem eX3_isAt (a0 : Nat) (a1 : Int32) (a2 : Nat) (a3 : Int32) (h : AH) : mX3_isAt [.ref a0, .int a1, .ref a2, .int a3] h = (bX3_isAt [.val (.ref a0), .val (.int a1), .val (.ref a2), .val (.int a3), .unset] h).bind (finM (some (.boolean))) := rfl
/-! Forms.printOf -/
theorem dX3_printOf_0 : decode cX3_printOf 0 = .ok (.bipush 7, 2) := by decide +kernel
theorem dX3_printOf_2 : decode cX3_printOf 2 = .ok (.istore_n 3, 1) := by decide +kernel
theorem dX3_printOf_3 : decode cX3_printOf 3 = .ok (.iconst 0, 1) := by decide +kernel
theorem dX3_printOf_4 : decode cX3_printOf 4 = .ok (.istore 4, 2) := by decide +kernel
theorem dX3_printOf_6 : decode cX3_printOf 6 = .ok (.iload 4, 2) := by decide +kernel
theorem dX3_printOf_8 : decode cX3_printOf 8 = .ok (.iload_n 2, 1) := by decide +kernel
theorem dX3_printOf_9 : decode cX3_printOf 9 = .ok (.if_icmp .ge 29, 3) := by decide +kernel
theorem dX3_printOf_12 : decode cX3_printOf 12 = .ok (.sipush 257, 3) := by decide +kernel
theorem dX3_printOf_15 : decode cX3_printOf 15 = .ok (.iload_n 3, 1) := by decide +kernel
theorem dX3_printOf_16 : decode cX3_printOf 16 = .ok (.imul, 1) := by decide +kernel
theorem dX3_printOf_17 : decode cX3_printOf 17 = .ok (.aload_n 0, 1) := by decide +kernel
theorem dX3_printOf_18 : decode cX3_printOf 18 = .ok (.iload_n 1, 1) := by decide +kernel
theorem dX3_printOf_19 : decode cX3_printOf 19 = .ok (.iload 4, 2) := by decide +kernel
theorem dX3_printOf_21 : decode cX3_printOf 21 = .ok (.iadd, 1) := by decide +kernel
theorem dX3_printOf_22 : decode cX3_printOf 22 = .ok (.invokevirtual 46, 3) := by decide +kernel
theorem dX3_printOf_25 : decode cX3_printOf 25 = .ok (.iadd, 1) := by decide +kernel
theorem dX3_printOf_26 : decode cX3_printOf 26 = .ok (.iconst 1, 1) := by decide +kernel
theorem dX3_printOf_27 : decode cX3_printOf 27 = .ok (.iadd, 1) := by decide +kernel
theorem dX3_printOf_28 : decode cX3_printOf 28 = .ok (.ldc 50, 2) := by decide +kernel
theorem dX3_printOf_30 : decode cX3_printOf 30 = .ok (.irem, 1) := by decide +kernel
theorem dX3_printOf_31 : decode cX3_printOf 31 = .ok (.istore_n 3, 1) := by decide +kernel
theorem dX3_printOf_32 : decode cX3_printOf 32 = .ok (.iinc 4 1, 3) := by decide +kernel
theorem dX3_printOf_35 : decode cX3_printOf 35 = .ok (.goto (-29), 3) := by decide +kernel
theorem dX3_printOf_38 : decode cX3_printOf 38 = .ok (.iload_n 3, 1) := by decide +kernel
theorem dX3_printOf_39 : decode cX3_printOf 39 = .ok (.ireturn, 1) := by decide +kernel
abbrev MX3_printOf : MI := (RX3, cX3_printOf, 5, 2, false)
def lcX3_printOf_1 : Ex Bool := (ltI (lvI 4) (lvI 2))
def lbX3_printOf_1 : St := (forB (lsI 3 (remI (addI (addI (mulI (ciI (iI 257)) (lvI 3)) (calX decI (ckV 5 1) mX5_at (agC va_rf (lvR 0) (agC Value.int (addI (lvI 1) (lvI 4)) agN)))) (ciI (iI 1))) (ciI (iI 65521)))) (incI 4 (iI 1)))
def bX3_printOf : St := (seqS (lsI 3 (ciI (iI 7))) (seqS (scS 4 (seqS (lsI 4 (ciI (iI 0))) (whileS lcX3_printOf_1 lbX3_printOf_1))) (retI (lvI 3))))
theorem jX3_printOf : JS MX3_printOf 0 0 0 40 [] bX3_printOf :=
  (JS.seq (pc1 := 3) (JS.is (pc1 := 2) (k := 3) (JX.bp (n := 7) kb7 dX3_printOf_0) rfl (show 3 < 5 by decide) dX3_printOf_2) (JS.seq (pc1 := 38) (JS.sc (JS.seq (pc1 := 6) (JS.is2 (pc1 := 4) (JX.ic (n := 0) rfl dX3_printOf_3) (show 4 < 5 by decide) dX3_printOf_4) (JS.while (l := 38) (lb := 38) (pc1 := 12) (pc2 := 35) (pc3 := 38) (CJ.lt_f (tgt := 38) (pc1 := 8) (pc2 := 9) (JX.il2 dX3_printOf_6) (JX.il (k := 2) rfl dX3_printOf_8) dX3_printOf_9 rfl) (JS.forb (pc1 := 32) (JS.is (pc1 := 31) (k := 3) (JX.irem (pc1 := 28) (pc2 := 30) (JX.iadd (pc1 := 26) (pc2 := 27) (JX.iadd (pc1 := 17) (pc2 := 25) (JX.imul (pc1 := 15) (pc2 := 16) (JX.sp (n := 257) ks257 dX3_printOf_12) (JX.il (k := 3) rfl dX3_printOf_15) dX3_printOf_16) (JX.call (pc1 := 22) decI_ok (JA.r (JX.al (k := 0) rfl dX3_printOf_17) (JA.i (JX.iadd (pc1 := 19) (pc2 := 21) (JX.il (k := 1) rfl dX3_printOf_18) (JX.il2 dX3_printOf_19) dX3_printOf_21) JA.nil)) aX5_at (RunK.V (i := 46) (c := 5) (n := 1) cl5 rfl (CN nX5_at (by decide) (by decide)) gw905 gw595 gw596 dX3_printOf_22) (by decide)) dX3_printOf_25) (JX.ic (n := 1) rfl dX3_printOf_26) dX3_printOf_27) (JX.ldcK (i := 50) (by decide) gw978 dX3_printOf_28) dX3_printOf_30) rfl (show 3 < 5 by decide) dX3_printOf_31) (JS.inc (n := 1) rfl (show 4 < 5 by decide) dX3_printOf_32)) dX3_printOf_35 rfl (Or.inl rfl) (Or.inl rfl)))) (JS.retI (pc1 := 39) (JX.il (k := 3) rfl dX3_printOf_38) dX3_printOf_39)))
def mX3_printOf : MS := runM 5 (some (.int)) bX3_printOf
theorem aX3_printOf : MA yX3_printOf cX3_printOf 5 (some (.int)) 2 mX3_printOf := MA.of (plainFor_of_name (by decide)) jX3_printOf
theorem eX3_printOf (a0 : Nat) (a1 : Int32) (a2 : Int32) (h : AH) : mX3_printOf [.ref a0, .int a1, .int a2] h = (bX3_printOf [.val (.ref a0), .val (.int a1), .val (.int a2), .unset, .unset] h).bind (finM (some (.int))) := rfl
/-! Forms.find -/
theorem dX3_find_0 : decode cX3_find 0 = .ok (.aload_n 1, 1) := by decide +kernel
theorem dX3_find_1 : decode cX3_find 1 = .ok (.iload_n 2, 1) := by decide +kernel
theorem dX3_find_2 : decode cX3_find 2 = .ok (.iload_n 3, 1) := by decide +kernel
theorem dX3_find_3 : decode cX3_find 3 = .ok (.invokestatic 51, 3) := by decide +kernel
theorem dX3_find_6 : decode cX3_find 6 = .ok (.istore 4, 2) := by decide +kernel
theorem dX3_find_8 : decode cX3_find 8 = .ok (.aload_n 0, 1) := by decide +kernel
theorem dX3_find_9 : decode cX3_find 9 = .ok (.getfield 27, 3) := by decide +kernel
theorem dX3_find_12 : decode cX3_find 12 = .ok (.iload 4, 2) := by decide +kernel
theorem dX3_find_14 : decode cX3_find 14 = .ok (.sipush 255, 3) := by decide +kernel
theorem dX3_find_17 : decode cX3_find 17 = .ok (.iand, 1) := by decide +kernel
theorem dX3_find_18 : decode cX3_find 18 = .ok (.invokevirtual 46, 3) := by decide +kernel
theorem dX3_find_21 : decode cX3_find 21 = .ok (.istore 5, 2) := by decide +kernel
theorem dX3_find_23 : decode cX3_find 23 = .ok (.iconst 0, 1) := by decide +kernel
theorem dX3_find_24 : decode cX3_find 24 = .ok (.istore 6, 2) := by decide +kernel
theorem dX3_find_26 : decode cX3_find 26 = .ok (.iload 6, 2) := by decide +kernel
theorem dX3_find_28 : decode cX3_find 28 = .ok (.sipush 16384, 3) := by decide +kernel
theorem dX3_find_31 : decode cX3_find 31 = .ok (.if_icmp .ge 67, 3) := by decide +kernel
theorem dX3_find_34 : decode cX3_find 34 = .ok (.iload 5, 2) := by decide +kernel
theorem dX3_find_36 : decode cX3_find 36 = .ok (.iconst (-1), 1) := by decide +kernel
theorem dX3_find_37 : decode cX3_find 37 = .ok (.if_icmp .eq 61, 3) := by decide +kernel
theorem dX3_find_40 : decode cX3_find 40 = .ok (.aload_n 0, 1) := by decide +kernel
theorem dX3_find_41 : decode cX3_find 41 = .ok (.getfield 24, 3) := by decide +kernel
theorem dX3_find_44 : decode cX3_find 44 = .ok (.iload 5, 2) := by decide +kernel
theorem dX3_find_46 : decode cX3_find 46 = .ok (.invokevirtual 46, 3) := by decide +kernel
theorem dX3_find_49 : decode cX3_find 49 = .ok (.iload 4, 2) := by decide +kernel
theorem dX3_find_51 : decode cX3_find 51 = .ok (.if_icmp .ne 30, 3) := by decide +kernel
theorem dX3_find_54 : decode cX3_find 54 = .ok (.aload_n 0, 1) := by decide +kernel
theorem dX3_find_55 : decode cX3_find 55 = .ok (.getfield 21, 3) := by decide +kernel
theorem dX3_find_58 : decode cX3_find 58 = .ok (.iload 5, 2) := by decide +kernel
theorem dX3_find_60 : decode cX3_find 60 = .ok (.invokevirtual 46, 3) := by decide +kernel
theorem dX3_find_63 : decode cX3_find 63 = .ok (.iload_n 3, 1) := by decide +kernel
theorem dX3_find_64 : decode cX3_find 64 = .ok (.if_icmp .ne 17, 3) := by decide +kernel
theorem dX3_find_67 : decode cX3_find 67 = .ok (.aload_n 0, 1) := by decide +kernel
theorem dX3_find_68 : decode cX3_find 68 = .ok (.iload 5, 2) := by decide +kernel
theorem dX3_find_70 : decode cX3_find 70 = .ok (.aload_n 1, 1) := by decide +kernel
theorem dX3_find_71 : decode cX3_find 71 = .ok (.iload_n 2, 1) := by decide +kernel
theorem dX3_find_72 : decode cX3_find 72 = .ok (.invokevirtual 55, 3) := by decide +kernel
theorem dX3_find_75 : decode cX3_find 75 = .ok (.ifCond .eq 6, 3) := by decide +kernel
theorem dX3_find_78 : decode cX3_find 78 = .ok (.iload 5, 2) := by decide +kernel
theorem dX3_find_80 : decode cX3_find 80 = .ok (.ireturn, 1) := by decide +kernel
theorem dX3_find_81 : decode cX3_find 81 = .ok (.aload_n 0, 1) := by decide +kernel
theorem dX3_find_82 : decode cX3_find 82 = .ok (.getfield 30, 3) := by decide +kernel
theorem dX3_find_85 : decode cX3_find 85 = .ok (.iload 5, 2) := by decide +kernel
theorem dX3_find_87 : decode cX3_find 87 = .ok (.invokevirtual 46, 3) := by decide +kernel
theorem dX3_find_90 : decode cX3_find 90 = .ok (.istore 5, 2) := by decide +kernel
theorem dX3_find_92 : decode cX3_find 92 = .ok (.iinc 6 1, 3) := by decide +kernel
theorem dX3_find_95 : decode cX3_find 95 = .ok (.goto (-69), 3) := by decide +kernel
theorem dX3_find_98 : decode cX3_find 98 = .ok (.iconst (-1), 1) := by decide +kernel
theorem dX3_find_99 : decode cX3_find 99 = .ok (.ireturn, 1) := by decide +kernel
abbrev MX3_find : MI := (RX3, cX3_find, 7, 3, false)
def lcX3_find_1 : Ex Bool := (andX (ltI (lvI 6) (ciI (iI 16384))) (neI (lvI 5) (ciI (iI (-1)))))
def lbX3_find_1 : St := (forB (seqS (ifS (andX (andX (eqI (calX decI (ckV 5 1) mX5_at (agC va_rf (getR 3 3 (lvR 0)) (agC Value.int (lvI 5) agN))) (lvI 4)) (eqI (calX decI (ckV 5 1) mX5_at (agC va_rf (getR 3 2 (lvR 0)) (agC Value.int (lvI 5) agN))) (lvI 3))) (ne0 (calX decI (ckV 3 3) mX3_isAt (agC va_rf (lvR 0) (agC Value.int (lvI 5) (agC va_rf (lvR 1) (agC Value.int (lvI 2) agN))))))) (retI (lvI 5))) (lsI 5 (calX decI (ckV 5 1) mX5_at (agC va_rf (getR 3 5 (lvR 0)) (agC Value.int (lvI 5) agN))))) (incI 6 (iI 1)))
def bX3_find : St := (seqS (lsI 4 (calX decI (ckS 3) mX3_printOf (agC va_rf (lvR 1) (agC Value.int (lvI 2) (agC Value.int (lvI 3) agN))))) (seqS (lsI 5 (calX decI (ckV 5 1) mX5_at (agC va_rf (getR 3 4 (lvR 0)) (agC Value.int (andI (lvI 4) (ciI (iI 255))) agN)))) (seqS (scS 6 (seqS (lsI 6 (ciI (iI 0))) (whileS lcX3_find_1 lbX3_find_1))) (retI (ciI (iI (-1)))))))
theorem jX3_find : JS MX3_find 0 0 0 100 [] bX3_find :=
  (JS.seq (pc1 := 8) (JS.is2 (pc1 := 6) (JX.call (pc1 := 3) decI_ok (JA.r (JX.al (k := 1) rfl dX3_find_0) (JA.i (JX.il (k := 2) rfl dX3_find_1) (JA.i (JX.il (k := 3) rfl dX3_find_2) JA.nil))) aX3_printOf (RunK.S (i := 51) (n := 3) (CN nX3_printOf (by decide) (by decide)) gw975 gw976 dX3_find_3) (by decide)) (show 4 < 7 by decide) dX3_find_6) (JS.seq (pc1 := 23) (JS.is2 (pc1 := 21) (JX.call (pc1 := 18) decI_ok (JA.r (JX.getR (pc1 := 9) (c := 3) (k := 4) (i := 27) (JX.al (k := 0) rfl dX3_find_8) cl3 (by decide) rfl fk3_27 dX3_find_9) (JA.i (JX.iand (pc1 := 14) (pc2 := 17) (JX.il2 dX3_find_12) (JX.sp (n := 255) ks255 dX3_find_14) dX3_find_17) JA.nil)) aX5_at (RunK.V (i := 46) (c := 5) (n := 1) cl5 rfl (CN nX5_at (by decide) (by decide)) gw905 gw595 gw596 dX3_find_18) (by decide)) (show 5 < 7 by decide) dX3_find_21) (JS.seq (pc1 := 98) (JS.sc (JS.seq (pc1 := 26) (JS.is2 (pc1 := 24) (JX.ic (n := 0) rfl dX3_find_23) (show 6 < 7 by decide) dX3_find_24) (JS.while (l := 98) (lb := 98) (pc1 := 40) (pc2 := 95) (pc3 := 98) (CJ.and_f (pc1 := 34) (CJ.lt_f (tgt := 98) (pc1 := 28) (pc2 := 31) (JX.il2 dX3_find_26) (JX.sp (n := 16384) ks16384 dX3_find_28) dX3_find_31 rfl) (CJ.ne_f (tgt := 98) (pc1 := 36) (pc2 := 37) (JX.il2 dX3_find_34) (JX.ic (n := (-1)) rfl dX3_find_36) dX3_find_37 rfl)) (JS.forb (pc1 := 92) (JS.seq (pc1 := 81) (JS.iff (l := 81) (pc1 := 78) (CJ.and_f (pc1 := 67) (CJ.and_f (pc1 := 54) (CJ.eq_f (tgt := 81) (pc1 := 49) (pc2 := 51) (JX.call (pc1 := 46) decI_ok (JA.r (JX.getR (pc1 := 41) (c := 3) (k := 3) (i := 24) (JX.al (k := 0) rfl dX3_find_40) cl3 (by decide) rfl fk3_24 dX3_find_41) (JA.i (JX.il2 dX3_find_44) JA.nil)) aX5_at (RunK.V (i := 46) (c := 5) (n := 1) cl5 rfl (CN nX5_at (by decide) (by decide)) gw905 gw595 gw596 dX3_find_46) (by decide)) (JX.il2 dX3_find_49) dX3_find_51 rfl) (CJ.eq_f (tgt := 81) (pc1 := 63) (pc2 := 64) (JX.call (pc1 := 60) decI_ok (JA.r (JX.getR (pc1 := 55) (c := 3) (k := 2) (i := 21) (JX.al (k := 0) rfl dX3_find_54) cl3 (by decide) rfl fk3_21 dX3_find_55) (JA.i (JX.il2 dX3_find_58) JA.nil)) aX5_at (RunK.V (i := 46) (c := 5) (n := 1) cl5 rfl (CN nX5_at (by decide) (by decide)) gw905 gw595 gw596 dX3_find_60) (by decide)) (JX.il (k := 3) rfl dX3_find_63) dX3_find_64 rfl)) (CJ.ne0_f (tgt := 81) (pc1 := 75) (JX.call (pc1 := 72) decI_ok (JA.r (JX.al (k := 0) rfl dX3_find_67) (JA.i (JX.il2 dX3_find_68) (JA.r (JX.al (k := 1) rfl dX3_find_70) (JA.i (JX.il (k := 2) rfl dX3_find_71) JA.nil)))) aX3_isAt (RunK.V (i := 55) (c := 3) (n := 3) cl3 rfl (CN nX3_isAt (by decide) (by decide)) gw979 gw981 gs34 dX3_find_72) (by decide)) dX3_find_75 rfl)) (JS.retI (pc1 := 80) (JX.il2 dX3_find_78) dX3_find_80) (Or.inl rfl)) (JS.is2 (pc1 := 90) (JX.call (pc1 := 87) decI_ok (JA.r (JX.getR (pc1 := 82) (c := 3) (k := 5) (i := 30) (JX.al (k := 0) rfl dX3_find_81) cl3 (by decide) rfl fk3_30 dX3_find_82) (JA.i (JX.il2 dX3_find_85) JA.nil)) aX5_at (RunK.V (i := 46) (c := 5) (n := 1) cl5 rfl (CN nX5_at (by decide) (by decide)) gw905 gw595 gw596 dX3_find_87) (by decide)) (show 5 < 7 by decide) dX3_find_90)) (JS.inc (n := 1) rfl (show 6 < 7 by decide) dX3_find_92)) dX3_find_95 rfl (Or.inl rfl) (Or.inl rfl)))) (JS.retI (pc1 := 99) (JX.ic (n := (-1)) rfl dX3_find_98) dX3_find_99))))
def mX3_find : MS := runM 7 (some (.int)) bX3_find
theorem aX3_find : MA yX3_find cX3_find 7 (some (.int)) 3 mX3_find := MA.of (plainFor_of_name (by decide)) jX3_find
theorem eX3_find (a0 : Nat) (a1 : Nat) (a2 : Int32) (a3 : Int32) (h : AH) : mX3_find [.ref a0, .ref a1, .int a2, .int a3] h = (bX3_find [.val (.ref a0), .val (.ref a1), .val (.int a2), .val (.int a3), .unset, .unset, .unset] h).bind (finM (some (.int))) := rfl
