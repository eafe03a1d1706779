/-! ===== by program: mk20.py: methods ===== -/
/-! PieceStoreModel.holds -/
theorem dX12_holds_0 : decode cX12_holds 0 = .ok (.aload_n 0, 1) := by decide +kernel
theorem dX12_holds_1 : decode cX12_holds 1 = .ok (.getfield 164, 3) := by decide +kernel
theorem dX12_holds_4 : decode cX12_holds 4 = .ok (.iconst 1, 1) := by decide +kernel
theorem dX12_holds_5 : decode cX12_holds 5 = .ok (.aload_n 0, 1) := by decide +kernel
theorem dX12_holds_6 : decode cX12_holds 6 = .ok (.getfield 117, 3) := by decide +kernel
theorem dX12_holds_9 : decode cX12_holds 9 = .ok (.bipush 6, 2) := by decide +kernel
theorem dX12_holds_11 : decode cX12_holds 11 = .ok (.iaload, 1) := by decide +kernel
theorem dX12_holds_12 : decode cX12_holds 12 = .ok (.iastore, 1) := by decide +kernel
theorem dX12_holds_13 : decode cX12_holds 13 = .ok (.iconst 0, 1) := by decide +kernel
theorem dX12_holds_14 : decode cX12_holds 14 = .ok (.istore_n 2, 1) := by decide +kernel
theorem dX12_holds_15 : decode cX12_holds 15 = .ok (.sipush 1600, 3) := by decide +kernel
theorem dX12_holds_18 : decode cX12_holds 18 = .ok (.aload_n 0, 1) := by decide +kernel
theorem dX12_holds_19 : decode cX12_holds 19 = .ok (.getfield 51, 3) := by decide +kernel
theorem dX12_holds_22 : decode cX12_holds 22 = .ok (.imul, 1) := by decide +kernel
theorem dX12_holds_23 : decode cX12_holds 23 = .ok (.aload_n 0, 1) := by decide +kernel
theorem dX12_holds_24 : decode cX12_holds 24 = .ok (.getfield 57, 3) := by decide +kernel
theorem dX12_holds_27 : decode cX12_holds 27 = .ok (.iconst 3, 1) := by decide +kernel
theorem dX12_holds_28 : decode cX12_holds 28 = .ok (.aload_n 0, 1) := by decide +kernel
theorem dX12_holds_29 : decode cX12_holds 29 = .ok (.getfield 51, 3) := by decide +kernel
theorem dX12_holds_32 : decode cX12_holds 32 = .ok (.imul, 1) := by decide +kernel
theorem dX12_holds_33 : decode cX12_holds 33 = .ok (.iload_n 1, 1) := by decide +kernel
theorem dX12_holds_34 : decode cX12_holds 34 = .ok (.iadd, 1) := by decide +kernel
theorem dX12_holds_35 : decode cX12_holds 35 = .ok (.iaload, 1) := by decide +kernel
theorem dX12_holds_36 : decode cX12_holds 36 = .ok (.iadd, 1) := by decide +kernel
theorem dX12_holds_37 : decode cX12_holds 37 = .ok (.istore_n 3, 1) := by decide +kernel
theorem dX12_holds_38 : decode cX12_holds 38 = .ok (.iload_n 3, 1) := by decide +kernel
theorem dX12_holds_39 : decode cX12_holds 39 = .ok (.sipush 1600, 3) := by decide +kernel
theorem dX12_holds_42 : decode cX12_holds 42 = .ok (.aload_n 0, 1) := by decide +kernel
theorem dX12_holds_43 : decode cX12_holds 43 = .ok (.getfield 51, 3) := by decide +kernel
theorem dX12_holds_46 : decode cX12_holds 46 = .ok (.imul, 1) := by decide +kernel
theorem dX12_holds_47 : decode cX12_holds 47 = .ok (.aload_n 0, 1) := by decide +kernel
theorem dX12_holds_48 : decode cX12_holds 48 = .ok (.getfield 60, 3) := by decide +kernel
theorem dX12_holds_51 : decode cX12_holds 51 = .ok (.iconst 3, 1) := by decide +kernel
theorem dX12_holds_52 : decode cX12_holds 52 = .ok (.aload_n 0, 1) := by decide +kernel
theorem dX12_holds_53 : decode cX12_holds 53 = .ok (.getfield 51, 3) := by decide +kernel
theorem dX12_holds_56 : decode cX12_holds 56 = .ok (.imul, 1) := by decide +kernel
theorem dX12_holds_57 : decode cX12_holds 57 = .ok (.iload_n 1, 1) := by decide +kernel
theorem dX12_holds_58 : decode cX12_holds 58 = .ok (.iadd, 1) := by decide +kernel
theorem dX12_holds_59 : decode cX12_holds 59 = .ok (.iaload, 1) := by decide +kernel
theorem dX12_holds_60 : decode cX12_holds 60 = .ok (.iadd, 1) := by decide +kernel
theorem dX12_holds_61 : decode cX12_holds 61 = .ok (.if_icmp .ge 179, 3) := by decide +kernel
theorem dX12_holds_64 : decode cX12_holds 64 = .ok (.aload_n 0, 1) := by decide +kernel
theorem dX12_holds_65 : decode cX12_holds 65 = .ok (.getfield 63, 3) := by decide +kernel
theorem dX12_holds_68 : decode cX12_holds 68 = .ok (.iload_n 3, 1) := by decide +kernel
theorem dX12_holds_69 : decode cX12_holds 69 = .ok (.iaload, 1) := by decide +kernel
theorem dX12_holds_70 : decode cX12_holds 70 = .ok (.istore 4, 2) := by decide +kernel
theorem dX12_holds_72 : decode cX12_holds 72 = .ok (.iload 4, 2) := by decide +kernel
theorem dX12_holds_74 : decode cX12_holds 74 = .ok (.bipush 30, 2) := by decide +kernel
theorem dX12_holds_76 : decode cX12_holds 76 = .ok (.if_icmp .gt 49, 3) := by decide +kernel
theorem dX12_holds_79 : decode cX12_holds 79 = .ok (.aload_n 0, 1) := by decide +kernel
theorem dX12_holds_80 : decode cX12_holds 80 = .ok (.getfield 160, 3) := by decide +kernel
theorem dX12_holds_83 : decode cX12_holds 83 = .ok (.iload_n 2, 1) := by decide +kernel
theorem dX12_holds_84 : decode cX12_holds 84 = .ok (.iload 4, 2) := by decide +kernel
theorem dX12_holds_86 : decode cX12_holds 86 = .ok (.ifCond .ne 13, 3) := by decide +kernel
theorem dX12_holds_89 : decode cX12_holds 89 = .ok (.aload_n 0, 1) := by decide +kernel
theorem dX12_holds_90 : decode cX12_holds 90 = .ok (.getfield 66, 3) := by decide +kernel
theorem dX12_holds_93 : decode cX12_holds 93 = .ok (.iload_n 3, 1) := by decide +kernel
theorem dX12_holds_94 : decode cX12_holds 94 = .ok (.iaload, 1) := by decide +kernel
theorem dX12_holds_95 : decode cX12_holds 95 = .ok (.i2l, 1) := by decide +kernel
theorem dX12_holds_96 : decode cX12_holds 96 = .ok (.goto 22, 3) := by decide +kernel
theorem dX12_holds_99 : decode cX12_holds 99 = .ok (.iload 4, 2) := by decide +kernel
theorem dX12_holds_101 : decode cX12_holds 101 = .ok (.bipush 30, 2) := by decide +kernel
theorem dX12_holds_103 : decode cX12_holds 103 = .ok (.if_icmp .ne 7, 3) := by decide +kernel
theorem dX12_holds_106 : decode cX12_holds 106 = .ok (.lconst 1, 1) := by decide +kernel
theorem dX12_holds_107 : decode cX12_holds 107 = .ok (.goto 11, 3) := by decide +kernel
theorem dX12_holds_110 : decode cX12_holds 110 = .ok (.aload_n 0, 1) := by decide +kernel
theorem dX12_holds_111 : decode cX12_holds 111 = .ok (.getfield 164, 3) := by decide +kernel
theorem dX12_holds_114 : decode cX12_holds 114 = .ok (.iload 4, 2) := by decide +kernel
theorem dX12_holds_116 : decode cX12_holds 116 = .ok (.iaload, 1) := by decide +kernel
theorem dX12_holds_117 : decode cX12_holds 117 = .ok (.i2l, 1) := by decide +kernel
theorem dX12_holds_118 : decode cX12_holds 118 = .ok (.lastore, 1) := by decide +kernel
theorem dX12_holds_119 : decode cX12_holds 119 = .ok (.iinc 2 1, 3) := by decide +kernel
theorem dX12_holds_122 : decode cX12_holds 122 = .ok (.goto 112, 3) := by decide +kernel
theorem dX12_holds_125 : decode cX12_holds 125 = .ok (.iload 4, 2) := by decide +kernel
theorem dX12_holds_127 : decode cX12_holds 127 = .ok (.bipush 43, 2) := by decide +kernel
theorem dX12_holds_129 : decode cX12_holds 129 = .ok (.if_icmp .ne 24, 3) := by decide +kernel
theorem dX12_holds_132 : decode cX12_holds 132 = .ok (.aload_n 0, 1) := by decide +kernel
theorem dX12_holds_133 : decode cX12_holds 133 = .ok (.getfield 160, 3) := by decide +kernel
theorem dX12_holds_136 : decode cX12_holds 136 = .ok (.iload_n 2, 1) := by decide +kernel
theorem dX12_holds_137 : decode cX12_holds 137 = .ok (.iconst 1, 1) := by decide +kernel
theorem dX12_holds_138 : decode cX12_holds 138 = .ok (.isub, 1) := by decide +kernel
theorem dX12_holds_139 : decode cX12_holds 139 = .ok (.lconst 1, 1) := by decide +kernel
theorem dX12_holds_140 : decode cX12_holds 140 = .ok (.aload_n 0, 1) := by decide +kernel
theorem dX12_holds_141 : decode cX12_holds 141 = .ok (.getfield 160, 3) := by decide +kernel
theorem dX12_holds_144 : decode cX12_holds 144 = .ok (.iload_n 2, 1) := by decide +kernel
theorem dX12_holds_145 : decode cX12_holds 145 = .ok (.iconst 1, 1) := by decide +kernel
theorem dX12_holds_146 : decode cX12_holds 146 = .ok (.isub, 1) := by decide +kernel
theorem dX12_holds_147 : decode cX12_holds 147 = .ok (.laload, 1) := by decide +kernel
theorem dX12_holds_148 : decode cX12_holds 148 = .ok (.lsub, 1) := by decide +kernel
theorem dX12_holds_149 : decode cX12_holds 149 = .ok (.lastore, 1) := by decide +kernel
theorem dX12_holds_150 : decode cX12_holds 150 = .ok (.goto 84, 3) := by decide +kernel
theorem dX12_holds_153 : decode cX12_holds 153 = .ok (.iload 4, 2) := by decide +kernel
theorem dX12_holds_155 : decode cX12_holds 155 = .ok (.bipush 44, 2) := by decide +kernel
theorem dX12_holds_157 : decode cX12_holds 157 = .ok (.if_icmp .ne 47, 3) := by decide +kernel
theorem dX12_holds_160 : decode cX12_holds 160 = .ok (.iinc 2 (-2), 3) := by decide +kernel
theorem dX12_holds_163 : decode cX12_holds 163 = .ok (.aload_n 0, 1) := by decide +kernel
theorem dX12_holds_164 : decode cX12_holds 164 = .ok (.getfield 160, 3) := by decide +kernel
theorem dX12_holds_167 : decode cX12_holds 167 = .ok (.iload_n 2, 1) := by decide +kernel
theorem dX12_holds_168 : decode cX12_holds 168 = .ok (.iconst 1, 1) := by decide +kernel
theorem dX12_holds_169 : decode cX12_holds 169 = .ok (.isub, 1) := by decide +kernel
theorem dX12_holds_170 : decode cX12_holds 170 = .ok (.aload_n 0, 1) := by decide +kernel
theorem dX12_holds_171 : decode cX12_holds 171 = .ok (.getfield 160, 3) := by decide +kernel
theorem dX12_holds_174 : decode cX12_holds 174 = .ok (.iload_n 2, 1) := by decide +kernel
theorem dX12_holds_175 : decode cX12_holds 175 = .ok (.iconst 1, 1) := by decide +kernel
theorem dX12_holds_176 : decode cX12_holds 176 = .ok (.isub, 1) := by decide +kernel
theorem dX12_holds_177 : decode cX12_holds 177 = .ok (.laload, 1) := by decide +kernel
theorem dX12_holds_178 : decode cX12_holds 178 = .ok (.lconst 1, 1) := by decide +kernel
theorem dX12_holds_179 : decode cX12_holds 179 = .ok (.lcmp, 1) := by decide +kernel
theorem dX12_holds_180 : decode cX12_holds 180 = .ok (.ifCond .ne 12, 3) := by decide +kernel
theorem dX12_holds_183 : decode cX12_holds 183 = .ok (.aload_n 0, 1) := by decide +kernel
theorem dX12_holds_184 : decode cX12_holds 184 = .ok (.getfield 160, 3) := by decide +kernel
theorem dX12_holds_187 : decode cX12_holds 187 = .ok (.iload_n 2, 1) := by decide +kernel
theorem dX12_holds_188 : decode cX12_holds 188 = .ok (.laload, 1) := by decide +kernel
theorem dX12_holds_189 : decode cX12_holds 189 = .ok (.goto 11, 3) := by decide +kernel
theorem dX12_holds_192 : decode cX12_holds 192 = .ok (.aload_n 0, 1) := by decide +kernel
theorem dX12_holds_193 : decode cX12_holds 193 = .ok (.getfield 160, 3) := by decide +kernel
theorem dX12_holds_196 : decode cX12_holds 196 = .ok (.iload_n 2, 1) := by decide +kernel
theorem dX12_holds_197 : decode cX12_holds 197 = .ok (.iconst 1, 1) := by decide +kernel
theorem dX12_holds_198 : decode cX12_holds 198 = .ok (.iadd, 1) := by decide +kernel
theorem dX12_holds_199 : decode cX12_holds 199 = .ok (.laload, 1) := by decide +kernel
theorem dX12_holds_200 : decode cX12_holds 200 = .ok (.lastore, 1) := by decide +kernel
theorem dX12_holds_201 : decode cX12_holds 201 = .ok (.goto 33, 3) := by decide +kernel
theorem dX12_holds_204 : decode cX12_holds 204 = .ok (.iinc 2 (-1), 3) := by decide +kernel
theorem dX12_holds_207 : decode cX12_holds 207 = .ok (.aload_n 0, 1) := by decide +kernel
theorem dX12_holds_208 : decode cX12_holds 208 = .ok (.getfield 160, 3) := by decide +kernel
theorem dX12_holds_211 : decode cX12_holds 211 = .ok (.iload_n 2, 1) := by decide +kernel
theorem dX12_holds_212 : decode cX12_holds 212 = .ok (.iconst 1, 1) := by decide +kernel
theorem dX12_holds_213 : decode cX12_holds 213 = .ok (.isub, 1) := by decide +kernel
theorem dX12_holds_214 : decode cX12_holds 214 = .ok (.iload 4, 2) := by decide +kernel
theorem dX12_holds_216 : decode cX12_holds 216 = .ok (.aload_n 0, 1) := by decide +kernel
theorem dX12_holds_217 : decode cX12_holds 217 = .ok (.getfield 160, 3) := by decide +kernel
theorem dX12_holds_220 : decode cX12_holds 220 = .ok (.iload_n 2, 1) := by decide +kernel
theorem dX12_holds_221 : decode cX12_holds 221 = .ok (.iconst 1, 1) := by decide +kernel
theorem dX12_holds_222 : decode cX12_holds 222 = .ok (.isub, 1) := by decide +kernel
theorem dX12_holds_223 : decode cX12_holds 223 = .ok (.laload, 1) := by decide +kernel
theorem dX12_holds_224 : decode cX12_holds 224 = .ok (.aload_n 0, 1) := by decide +kernel
theorem dX12_holds_225 : decode cX12_holds 225 = .ok (.getfield 160, 3) := by decide +kernel
theorem dX12_holds_228 : decode cX12_holds 228 = .ok (.iload_n 2, 1) := by decide +kernel
theorem dX12_holds_229 : decode cX12_holds 229 = .ok (.laload, 1) := by decide +kernel
theorem dX12_holds_230 : decode cX12_holds 230 = .ok (.invokestatic 404, 3) := by decide +kernel
theorem dX12_holds_233 : decode cX12_holds 233 = .ok (.lastore, 1) := by decide +kernel
theorem dX12_holds_234 : decode cX12_holds 234 = .ok (.iinc 3 1, 3) := by decide +kernel
theorem dX12_holds_237 : decode cX12_holds 237 = .ok (.goto (-199), 3) := by decide +kernel
theorem dX12_holds_240 : decode cX12_holds 240 = .ok (.aload_n 0, 1) := by decide +kernel
theorem dX12_holds_241 : decode cX12_holds 241 = .ok (.getfield 160, 3) := by decide +kernel
theorem dX12_holds_244 : decode cX12_holds 244 = .ok (.iconst 0, 1) := by decide +kernel
theorem dX12_holds_245 : decode cX12_holds 245 = .ok (.laload, 1) := by decide +kernel
theorem dX12_holds_246 : decode cX12_holds 246 = .ok (.lconst 1, 1) := by decide +kernel
theorem dX12_holds_247 : decode cX12_holds 247 = .ok (.lcmp, 1) := by decide +kernel
theorem dX12_holds_248 : decode cX12_holds 248 = .ok (.ifCond .ne 7, 3) := by decide +kernel
theorem dX12_holds_251 : decode cX12_holds 251 = .ok (.iconst 1, 1) := by decide +kernel
theorem dX12_holds_252 : decode cX12_holds 252 = .ok (.goto 4, 3) := by decide +kernel
theorem dX12_holds_255 : decode cX12_holds 255 = .ok (.iconst 0, 1) := by decide +kernel
theorem dX12_holds_256 : decode cX12_holds 256 = .ok (.ireturn, 1) := by decide +kernel
abbrev MX12_holds : MI := (RX12, cX12_holds, 5, 3, false)
def lcX12_holds_1 : Ex Bool := (ltI (lvI 3) (addI (mulI (ciI (iI 1600)) (getI 12 13 (lvR 0))) (aldI 2 (getR 12 16 (lvR 0)) (addI (mulI (ciI (iI 3)) (getI 12 13 (lvR 0))) (lvI 1)))))
def lbX12_holds_1 : St := (forB (scS 4 (seqS (lsI 4 (aldI 2 (getR 12 17 (lvR 0)) (lvI 3))) (ifeS (leI (lvI 4) (ciI (iI 30))) (seqS (astL (getR 12 48 (lvR 0)) (lvI 2) (iteX (eq0 (lvI 4)) (i2L (aldI 2 (getR 12 18 (lvR 0)) (lvI 3))) (iteX (eqI (lvI 4) (ciI (iI 30))) (clL (lI 1)) (i2L (aldI 2 (getR 12 49 (lvR 0)) (lvI 4)))))) (incI 2 (iI 1))) (ifeS (eqI (lvI 4) (ciI (iI 43))) (astL (getR 12 48 (lvR 0)) (subI (lvI 2) (ciI (iI 1))) (subL (clL (lI 1)) (aldL (getR 12 48 (lvR 0)) (subI (lvI 2) (ciI (iI 1)))))) (ifeS (eqI (lvI 4) (ciI (iI 44))) (seqS (incI 2 (iI (-2))) (astL (getR 12 48 (lvR 0)) (subI (lvI 2) (ciI (iI 1))) (iteX (eqL (aldL (getR 12 48 (lvR 0)) (subI (lvI 2) (ciI (iI 1)))) (clL (lI 1))) (aldL (getR 12 48 (lvR 0)) (lvI 2)) (aldL (getR 12 48 (lvR 0)) (addI (lvI 2) (ciI (iI 1))))))) (seqS (incI 2 (iI (-1))) (astL (getR 12 48 (lvR 0)) (subI (lvI 2) (ciI (iI 1))) (calX decL (ckS 3) mX12_two (agC Value.int (lvI 4) (agC Value.long (aldL (getR 12 48 (lvR 0)) (subI (lvI 2) (ciI (iI 1)))) (agC Value.long (aldL (getR 12 48 (lvR 0)) (lvI 2)) agN))))))))))) (incI 3 (iI 1)))
def bX12_holds : St := (seqS (astI (getR 12 49 (lvR 0)) (ciI (iI 1)) (aldI 2 (getR 12 34 (lvR 0)) (ciI (iI 6)))) (seqS (lsI 2 (ciI (iI 0))) (seqS (scS 3 (seqS (lsI 3 (addI (mulI (ciI (iI 1600)) (getI 12 13 (lvR 0))) (aldI 2 (getR 12 15 (lvR 0)) (addI (mulI (ciI (iI 3)) (getI 12 13 (lvR 0))) (lvI 1))))) (whileS lcX12_holds_1 lbX12_holds_1))) (retI (iteX (eqL (aldL (getR 12 48 (lvR 0)) (ciI (iI 0))) (clL (lI 1))) (ciI (iI 1)) (ciI (iI 0)))))))
theorem jX12_holds : JS MX12_holds 0 0 0 257 [] bX12_holds :=
  (JS.seq (pc1 := 13) (JS.ia (pc1 := 4) (pc2 := 5) (pc3 := 12) (JX.getR (pc1 := 1) (c := 12) (k := 49) (i := 164) (JX.al (k := 0) rfl dX12_holds_0) cl12 (by decide) rfl fk12_164 dX12_holds_1) (JX.ic (n := 1) rfl dX12_holds_4) (JX.iald (pc1 := 9) (pc2 := 11) (JX.getR (pc1 := 6) (c := 12) (k := 34) (i := 117) (JX.al (k := 0) rfl dX12_holds_5) cl12 (by decide) rfl fk12_117 dX12_holds_6) (JX.bp (n := 6) kb6 dX12_holds_9) dX12_holds_11) dX12_holds_12) (JS.seq (pc1 := 15) (JS.is (pc1 := 14) (k := 2) (JX.ic (n := 0) rfl dX12_holds_13) rfl (show 2 < 5 by decide) dX12_holds_14) (JS.seq (pc1 := 240) (JS.sc (JS.seq (pc1 := 38) (JS.is (pc1 := 37) (k := 3) (JX.iadd (pc1 := 23) (pc2 := 36) (JX.imul (pc1 := 18) (pc2 := 22) (JX.sp (n := 1600) ks1600 dX12_holds_15) (JX.getI (pc1 := 19) (c := 12) (k := 13) (i := 51) (JX.al (k := 0) rfl dX12_holds_18) cl12 (by decide) rfl fk12_51 dX12_holds_19) dX12_holds_22) (JX.iald (pc1 := 27) (pc2 := 35) (JX.getR (pc1 := 24) (c := 12) (k := 15) (i := 57) (JX.al (k := 0) rfl dX12_holds_23) cl12 (by decide) rfl fk12_57 dX12_holds_24) (JX.iadd (pc1 := 33) (pc2 := 34) (JX.imul (pc1 := 28) (pc2 := 32) (JX.ic (n := 3) rfl dX12_holds_27) (JX.getI (pc1 := 29) (c := 12) (k := 13) (i := 51) (JX.al (k := 0) rfl dX12_holds_28) cl12 (by decide) rfl fk12_51 dX12_holds_29) dX12_holds_32) (JX.il (k := 1) rfl dX12_holds_33) dX12_holds_34) dX12_holds_35) dX12_holds_36) rfl (show 3 < 5 by decide) dX12_holds_37) (JS.while (l := 240) (lb := 240) (pc1 := 64) (pc2 := 237) (pc3 := 240) (CJ.lt_f (tgt := 240) (pc1 := 39) (pc2 := 61) (JX.il (k := 3) rfl dX12_holds_38) (JX.iadd (pc1 := 47) (pc2 := 60) (JX.imul (pc1 := 42) (pc2 := 46) (JX.sp (n := 1600) ks1600 dX12_holds_39) (JX.getI (pc1 := 43) (c := 12) (k := 13) (i := 51) (JX.al (k := 0) rfl dX12_holds_42) cl12 (by decide) rfl fk12_51 dX12_holds_43) dX12_holds_46) (JX.iald (pc1 := 51) (pc2 := 59) (JX.getR (pc1 := 48) (c := 12) (k := 16) (i := 60) (JX.al (k := 0) rfl dX12_holds_47) cl12 (by decide) rfl fk12_60 dX12_holds_48) (JX.iadd (pc1 := 57) (pc2 := 58) (JX.imul (pc1 := 52) (pc2 := 56) (JX.ic (n := 3) rfl dX12_holds_51) (JX.getI (pc1 := 53) (c := 12) (k := 13) (i := 51) (JX.al (k := 0) rfl dX12_holds_52) cl12 (by decide) rfl fk12_51 dX12_holds_53) dX12_holds_56) (JX.il (k := 1) rfl dX12_holds_57) dX12_holds_58) dX12_holds_59) dX12_holds_60) dX12_holds_61 rfl) (JS.forb (pc1 := 234) (JS.sc (JS.seq (pc1 := 72) (JS.is2 (pc1 := 70) (JX.iald (pc1 := 68) (pc2 := 69) (JX.getR (pc1 := 65) (c := 12) (k := 17) (i := 63) (JX.al (k := 0) rfl dX12_holds_64) cl12 (by decide) rfl fk12_63 dX12_holds_65) (JX.il (k := 3) rfl dX12_holds_68) dX12_holds_69) (show 4 < 5 by decide) dX12_holds_70) (JS.ife (l := 125) (lend := 234) (pc1 := 79) (pc2 := 122) (pc3 := 234) (CJ.le_f (tgt := 125) (pc1 := 74) (pc2 := 76) (JX.il2 dX12_holds_72) (JX.bp (n := 30) kb30 dX12_holds_74) dX12_holds_76 rfl) (JS.seq (pc1 := 119) (JS.la (pc1 := 83) (pc2 := 84) (pc3 := 118) (JX.getR (pc1 := 80) (c := 12) (k := 48) (i := 160) (JX.al (k := 0) rfl dX12_holds_79) cl12 (by decide) rfl fk12_160 dX12_holds_80) (JX.il (k := 2) rfl dX12_holds_83) (JX.ite (l := 99) (pc1 := 89) (pc2 := 96) (pc3 := 118) (lend := 118) (CJ.eq0_f (tgt := 99) (pc1 := 86) (JX.il2 dX12_holds_84) dX12_holds_86 rfl) (JX.i2l (pc1 := 95) (JX.iald (pc1 := 93) (pc2 := 94) (JX.getR (pc1 := 90) (c := 12) (k := 18) (i := 66) (JX.al (k := 0) rfl dX12_holds_89) cl12 (by decide) rfl fk12_66 dX12_holds_90) (JX.il (k := 3) rfl dX12_holds_93) dX12_holds_94) dX12_holds_95) dX12_holds_96 rfl (JX.ite (l := 110) (pc1 := 106) (pc2 := 107) (pc3 := 118) (lend := 118) (CJ.eq_f (tgt := 110) (pc1 := 101) (pc2 := 103) (JX.il2 dX12_holds_99) (JX.bp (n := 30) kb30 dX12_holds_101) dX12_holds_103 rfl) (JX.lc (n := 1) (v := lI 1) rfl dX12_holds_106) dX12_holds_107 rfl (JX.i2l (pc1 := 117) (JX.iald (pc1 := 114) (pc2 := 116) (JX.getR (pc1 := 111) (c := 12) (k := 49) (i := 164) (JX.al (k := 0) rfl dX12_holds_110) cl12 (by decide) rfl fk12_164 dX12_holds_111) (JX.il2 dX12_holds_114) dX12_holds_116) dX12_holds_117) (Or.inl rfl)) (Or.inl rfl)) dX12_holds_118) (JS.inc (n := 1) rfl (show 2 < 5 by decide) dX12_holds_119)) dX12_holds_122 rfl (JS.ife (l := 153) (lend := 234) (pc1 := 132) (pc2 := 150) (pc3 := 234) (CJ.eq_f (tgt := 153) (pc1 := 127) (pc2 := 129) (JX.il2 dX12_holds_125) (JX.bp (n := 43) kb43 dX12_holds_127) dX12_holds_129 rfl) (JS.la (pc1 := 136) (pc2 := 139) (pc3 := 149) (JX.getR (pc1 := 133) (c := 12) (k := 48) (i := 160) (JX.al (k := 0) rfl dX12_holds_132) cl12 (by decide) rfl fk12_160 dX12_holds_133) (JX.isub (pc1 := 137) (pc2 := 138) (JX.il (k := 2) rfl dX12_holds_136) (JX.ic (n := 1) rfl dX12_holds_137) dX12_holds_138) (JX.lsub (pc1 := 140) (pc2 := 148) (JX.lc (n := 1) (v := lI 1) rfl dX12_holds_139) (JX.lald (pc1 := 144) (pc2 := 147) (JX.getR (pc1 := 141) (c := 12) (k := 48) (i := 160) (JX.al (k := 0) rfl dX12_holds_140) cl12 (by decide) rfl fk12_160 dX12_holds_141) (JX.isub (pc1 := 145) (pc2 := 146) (JX.il (k := 2) rfl dX12_holds_144) (JX.ic (n := 1) rfl dX12_holds_145) dX12_holds_146) dX12_holds_147) dX12_holds_148) dX12_holds_149) dX12_holds_150 rfl (JS.ife (l := 204) (lend := 234) (pc1 := 160) (pc2 := 201) (pc3 := 234) (CJ.eq_f (tgt := 204) (pc1 := 155) (pc2 := 157) (JX.il2 dX12_holds_153) (JX.bp (n := 44) kb44 dX12_holds_155) dX12_holds_157 rfl) (JS.seq (pc1 := 163) (JS.inc (n := (-2)) rfl (show 2 < 5 by decide) dX12_holds_160) (JS.la (pc1 := 167) (pc2 := 170) (pc3 := 200) (JX.getR (pc1 := 164) (c := 12) (k := 48) (i := 160) (JX.al (k := 0) rfl dX12_holds_163) cl12 (by decide) rfl fk12_160 dX12_holds_164) (JX.isub (pc1 := 168) (pc2 := 169) (JX.il (k := 2) rfl dX12_holds_167) (JX.ic (n := 1) rfl dX12_holds_168) dX12_holds_169) (JX.ite (l := 192) (pc1 := 183) (pc2 := 189) (pc3 := 200) (lend := 200) (CJ.eqL_f (tgt := 192) (pc1 := 178) (pc2 := 179) (JX.lald (pc1 := 174) (pc2 := 177) (JX.getR (pc1 := 171) (c := 12) (k := 48) (i := 160) (JX.al (k := 0) rfl dX12_holds_170) cl12 (by decide) rfl fk12_160 dX12_holds_171) (JX.isub (pc1 := 175) (pc2 := 176) (JX.il (k := 2) rfl dX12_holds_174) (JX.ic (n := 1) rfl dX12_holds_175) dX12_holds_176) dX12_holds_177) (JX.lc (n := 1) (v := lI 1) rfl dX12_holds_178) dX12_holds_179 dX12_holds_180 rfl) (JX.lald (pc1 := 187) (pc2 := 188) (JX.getR (pc1 := 184) (c := 12) (k := 48) (i := 160) (JX.al (k := 0) rfl dX12_holds_183) cl12 (by decide) rfl fk12_160 dX12_holds_184) (JX.il (k := 2) rfl dX12_holds_187) dX12_holds_188) dX12_holds_189 rfl (JX.lald (pc1 := 196) (pc2 := 199) (JX.getR (pc1 := 193) (c := 12) (k := 48) (i := 160) (JX.al (k := 0) rfl dX12_holds_192) cl12 (by decide) rfl fk12_160 dX12_holds_193) (JX.iadd (pc1 := 197) (pc2 := 198) (JX.il (k := 2) rfl dX12_holds_196) (JX.ic (n := 1) rfl dX12_holds_197) dX12_holds_198) dX12_holds_199) (Or.inl rfl)) dX12_holds_200)) dX12_holds_201 rfl (JS.seq (pc1 := 207) (JS.inc (n := (-1)) rfl (show 2 < 5 by decide) dX12_holds_204) (JS.la (pc1 := 211) (pc2 := 214) (pc3 := 233) (JX.getR (pc1 := 208) (c := 12) (k := 48) (i := 160) (JX.al (k := 0) rfl dX12_holds_207) cl12 (by decide) rfl fk12_160 dX12_holds_208) (JX.isub (pc1 := 212) (pc2 := 213) (JX.il (k := 2) rfl dX12_holds_211) (JX.ic (n := 1) rfl dX12_holds_212) dX12_holds_213) (JX.call (pc1 := 230) decL_ok (JA.i (JX.il2 dX12_holds_214) (JA.l (JX.lald (pc1 := 220) (pc2 := 223) (JX.getR (pc1 := 217) (c := 12) (k := 48) (i := 160) (JX.al (k := 0) rfl dX12_holds_216) cl12 (by decide) rfl fk12_160 dX12_holds_217) (JX.isub (pc1 := 221) (pc2 := 222) (JX.il (k := 2) rfl dX12_holds_220) (JX.ic (n := 1) rfl dX12_holds_221) dX12_holds_222) dX12_holds_223) (JA.l (JX.lald (pc1 := 228) (pc2 := 229) (JX.getR (pc1 := 225) (c := 12) (k := 48) (i := 160) (JX.al (k := 0) rfl dX12_holds_224) cl12 (by decide) rfl fk12_160 dX12_holds_225) (JX.il (k := 2) rfl dX12_holds_228) dX12_holds_229) JA.nil))) aX12_two (RunK.S (i := 404) (n := 3) (CN nX12_two (by decide) (by decide)) gw1738 gw1739 dX12_holds_230) (by decide)) dX12_holds_233)) (Or.inl rfl)) (Or.inl rfl)) (Or.inl rfl)))) (JS.inc (n := 1) rfl (show 3 < 5 by decide) dX12_holds_234)) dX12_holds_237 rfl (Or.inl rfl) (Or.inl rfl)))) (JS.retI (pc1 := 256) (JX.ite (l := 255) (pc1 := 251) (pc2 := 252) (pc3 := 256) (lend := 256) (CJ.eqL_f (tgt := 255) (pc1 := 246) (pc2 := 247) (JX.lald (pc1 := 244) (pc2 := 245) (JX.getR (pc1 := 241) (c := 12) (k := 48) (i := 160) (JX.al (k := 0) rfl dX12_holds_240) cl12 (by decide) rfl fk12_160 dX12_holds_241) (JX.ic (n := 0) rfl dX12_holds_244) dX12_holds_245) (JX.lc (n := 1) (v := lI 1) rfl dX12_holds_246) dX12_holds_247 dX12_holds_248 rfl) (JX.ic (n := 1) rfl dX12_holds_251) dX12_holds_252 rfl (JX.ic (n := 0) rfl dX12_holds_255) (Or.inl rfl)) dX12_holds_256))))
def mX12_holds : MS := runM 5 (some (.boolean)) bX12_holds
theorem aX12_holds : MA yX12_holds cX12_holds 5 (some (.boolean)) 3 mX12_holds := MA.of (plainFor_of_name (by decide)) jX12_holds
theorem eX12_holds (a0 : Nat) (a1 : Int32) (h : AH) : mX12_holds [.ref a0, .int a1] h = (bX12_holds [.val (.ref a0), .val (.int a1), .unset, .unset, .unset] h).bind (finM (some (.boolean))) := rfl
/-! PieceStoreModel.isTold -/
theorem dX12_isTold_0 : decode cX12_isTold 0 = .ok (.aload_n 0, 1) := by decide +kernel
theorem dX12_isTold_1 : decode cX12_isTold 1 = .ok (.getfield 57, 3) := by decide +kernel
theorem dX12_isTold_4 : decode cX12_isTold 4 = .ok (.iconst 3, 1) := by decide +kernel
theorem dX12_isTold_5 : decode cX12_isTold 5 = .ok (.aload_n 0, 1) := by decide +kernel
theorem dX12_isTold_6 : decode cX12_isTold 6 = .ok (.getfield 51, 3) := by decide +kernel
theorem dX12_isTold_9 : decode cX12_isTold 9 = .ok (.imul, 1) := by decide +kernel
theorem dX12_isTold_10 : decode cX12_isTold 10 = .ok (.iload_n 1, 1) := by decide +kernel
theorem dX12_isTold_11 : decode cX12_isTold 11 = .ok (.iadd, 1) := by decide +kernel
theorem dX12_isTold_12 : decode cX12_isTold 12 = .ok (.iaload, 1) := by decide +kernel
theorem dX12_isTold_13 : decode cX12_isTold 13 = .ok (.iconst (-1), 1) := by decide +kernel
theorem dX12_isTold_14 : decode cX12_isTold 14 = .ok (.if_icmp .eq 7, 3) := by decide +kernel
theorem dX12_isTold_17 : decode cX12_isTold 17 = .ok (.iconst 1, 1) := by decide +kernel
theorem dX12_isTold_18 : decode cX12_isTold 18 = .ok (.goto 4, 3) := by decide +kernel
theorem dX12_isTold_21 : decode cX12_isTold 21 = .ok (.iconst 0, 1) := by decide +kernel
theorem dX12_isTold_22 : decode cX12_isTold 22 = .ok (.ireturn, 1) := by decide +kernel
abbrev MX12_isTold : MI := (RX12, cX12_isTold, 2, 1, false)
def bX12_isTold : St := (retI (iteX (neI (aldI 2 (getR 12 15 (lvR 0)) (addI (mulI (ciI (iI 3)) (getI 12 13 (lvR 0))) (lvI 1))) (ciI (iI (-1)))) (ciI (iI 1)) (ciI (iI 0))))
theorem jX12_isTold : JS MX12_isTold 0 0 0 23 [] bX12_isTold :=
  (JS.retI (pc1 := 22) (JX.ite (l := 21) (pc1 := 17) (pc2 := 18) (pc3 := 22) (lend := 22) (CJ.ne_f (tgt := 21) (pc1 := 13) (pc2 := 14) (JX.iald (pc1 := 4) (pc2 := 12) (JX.getR (pc1 := 1) (c := 12) (k := 15) (i := 57) (JX.al (k := 0) rfl dX12_isTold_0) cl12 (by decide) rfl fk12_57 dX12_isTold_1) (JX.iadd (pc1 := 10) (pc2 := 11) (JX.imul (pc1 := 5) (pc2 := 9) (JX.ic (n := 3) rfl dX12_isTold_4) (JX.getI (pc1 := 6) (c := 12) (k := 13) (i := 51) (JX.al (k := 0) rfl dX12_isTold_5) cl12 (by decide) rfl fk12_51 dX12_isTold_6) dX12_isTold_9) (JX.il (k := 1) rfl dX12_isTold_10) dX12_isTold_11) dX12_isTold_12) (JX.ic (n := (-1)) rfl dX12_isTold_13) dX12_isTold_14 rfl) (JX.ic (n := 1) rfl dX12_isTold_17) dX12_isTold_18 rfl (JX.ic (n := 0) rfl dX12_isTold_21) (Or.inl rfl)) dX12_isTold_22)
def mX12_isTold : MS := runM 2 (some (.boolean)) bX12_isTold
theorem aX12_isTold : MA yX12_isTold cX12_isTold 2 (some (.boolean)) 1 mX12_isTold := MA.of (plainFor_of_name (by decide)) jX12_isTold
theorem eX12_isTold (a0 : Nat) (a1 : Int32) (h : AH) : mX12_isTold [.ref a0, .int a1] h = (bX12_isTold [.val (.ref a0), .val (.int a1)] h).bind (finM (some (.boolean))) := rfl
/-! PieceStoreModel.isFile -/
theorem dX12_isFile_0 : decode cX12_isFile 0 = .ok (.aload_n 0, 1) := by decide +kernel
theorem dX12_isFile_1 : decode cX12_isFile 1 = .ok (.getfield 13, 3) := by decide +kernel
theorem dX12_isFile_4 : decode cX12_isFile 4 = .ok (.istore_n 1, 1) := by decide +kernel
theorem dX12_isFile_5 : decode cX12_isFile 5 = .ok (.aload_n 0, 1) := by decide +kernel
theorem dX12_isFile_6 : decode cX12_isFile 6 = .ok (.iconst 0, 1) := by decide +kernel
theorem dX12_isFile_7 : decode cX12_isFile 7 = .ok (.putfield 13, 3) := by decide +kernel
theorem dX12_isFile_10 : decode cX12_isFile 10 = .ok (.aload_n 0, 1) := by decide +kernel
theorem dX12_isFile_11 : decode cX12_isFile 11 = .ok (.getfield 110, 3) := by decide +kernel
theorem dX12_isFile_14 : decode cX12_isFile 14 = .ok (.ifCond .eq 14, 3) := by decide +kernel
theorem dX12_isFile_17 : decode cX12_isFile 17 = .ok (.iload_n 1, 1) := by decide +kernel
theorem dX12_isFile_18 : decode cX12_isFile 18 = .ok (.ifCond .eq 10, 3) := by decide +kernel
theorem dX12_isFile_21 : decode cX12_isFile 21 = .ok (.iload_n 1, 1) := by decide +kernel
theorem dX12_isFile_22 : decode cX12_isFile 22 = .ok (.sipush 400, 3) := by decide +kernel
theorem dX12_isFile_25 : decode cX12_isFile 25 = .ok (.if_icmp .le 5, 3) := by decide +kernel
theorem dX12_isFile_28 : decode cX12_isFile 28 = .ok (.iconst 0, 1) := by decide +kernel
theorem dX12_isFile_29 : decode cX12_isFile 29 = .ok (.ireturn, 1) := by decide +kernel
theorem dX12_isFile_30 : decode cX12_isFile 30 = .ok (.iconst 0, 1) := by decide +kernel
theorem dX12_isFile_31 : decode cX12_isFile 31 = .ok (.istore_n 2, 1) := by decide +kernel
theorem dX12_isFile_32 : decode cX12_isFile 32 = .ok (.iload_n 2, 1) := by decide +kernel
theorem dX12_isFile_33 : decode cX12_isFile 33 = .ok (.iload_n 1, 1) := by decide +kernel
theorem dX12_isFile_34 : decode cX12_isFile 34 = .ok (.if_icmp .ge 21, 3) := by decide +kernel
theorem dX12_isFile_37 : decode cX12_isFile 37 = .ok (.aload_n 0, 1) := by decide +kernel
theorem dX12_isFile_38 : decode cX12_isFile 38 = .ok (.getfield 167, 3) := by decide +kernel
theorem dX12_isFile_41 : decode cX12_isFile 41 = .ok (.iload_n 2, 1) := by decide +kernel
theorem dX12_isFile_42 : decode cX12_isFile 42 = .ok (.aload_n 0, 1) := by decide +kernel
theorem dX12_isFile_43 : decode cX12_isFile 43 = .ok (.getfield 9, 3) := by decide +kernel
theorem dX12_isFile_46 : decode cX12_isFile 46 = .ok (.iload_n 2, 1) := by decide +kernel
theorem dX12_isFile_47 : decode cX12_isFile 47 = .ok (.iaload, 1) := by decide +kernel
theorem dX12_isFile_48 : decode cX12_isFile 48 = .ok (.iastore, 1) := by decide +kernel
theorem dX12_isFile_49 : decode cX12_isFile 49 = .ok (.iinc 2 1, 3) := by decide +kernel
theorem dX12_isFile_52 : decode cX12_isFile 52 = .ok (.goto (-20), 3) := by decide +kernel
theorem dX12_isFile_55 : decode cX12_isFile 55 = .ok (.aload_n 0, 1) := by decide +kernel
theorem dX12_isFile_56 : decode cX12_isFile 56 = .ok (.iload_n 1, 1) := by decide +kernel
theorem dX12_isFile_57 : decode cX12_isFile 57 = .ok (.putfield 170, 3) := by decide +kernel
theorem dX12_isFile_60 : decode cX12_isFile 60 = .ok (.iconst 1, 1) := by decide +kernel
theorem dX12_isFile_61 : decode cX12_isFile 61 = .ok (.ireturn, 1) := by decide +kernel
abbrev MX12_isFile : MI := (RX12, cX12_isFile, 3, 1, false)
def lcX12_isFile_1 : Ex Bool := (ltI (lvI 2) (lvI 1))
def lbX12_isFile_1 : St := (forB (astI (getR 12 50 (lvR 0)) (lvI 2) (aldI 2 (getR 12 0 (lvR 0)) (lvI 2))) (incI 2 (iI 1)))
def bX12_isFile : St := (seqS (lsI 1 (getI 12 1 (lvR 0))) (seqS (putI 12 1 (lvR 0) (ciI (iI 0))) (seqS (ifS (orX (orX (notX (ne0 (getI 12 32 (lvR 0)))) (eq0 (lvI 1))) (gtI (lvI 1) (ciI (iI 400)))) (retI (ciI (iI 0)))) (seqS (scS 2 (seqS (lsI 2 (ciI (iI 0))) (whileS lcX12_isFile_1 lbX12_isFile_1))) (seqS (putI 12 51 (lvR 0) (lvI 1)) (retI (ciI (iI 1))))))))
theorem jX12_isFile : JS MX12_isFile 0 0 0 62 [] bX12_isFile :=
  (JS.seq (pc1 := 5) (JS.is (pc1 := 4) (k := 1) (JX.getI (pc1 := 1) (c := 12) (k := 1) (i := 13) (JX.al (k := 0) rfl dX12_isFile_0) cl12 (by decide) rfl fk12_13 dX12_isFile_1) rfl (show 1 < 3 by decide) dX12_isFile_4) (JS.seq (pc1 := 10) (JS.pI (pc1 := 6) (pc2 := 7) (c := 12) (k := 1) (i := 13) (JX.al (k := 0) rfl dX12_isFile_5) (JX.ic (n := 0) rfl dX12_isFile_6) cl12 (by decide) rfl fk12_13 (Or.inl rfl) dX12_isFile_7) (JS.seq (pc1 := 30) (JS.iff (l := 30) (pc1 := 28) (CJ.or_f (l := 28) (pc1 := 21) (CJ.or_t (pc1 := 17) (CJ.not_t (CJ.ne0_f (tgt := 28) (pc1 := 14) (JX.getI (pc1 := 11) (c := 12) (k := 32) (i := 110) (JX.al (k := 0) rfl dX12_isFile_10) cl12 (by decide) rfl fk12_110 dX12_isFile_11) dX12_isFile_14 rfl)) (CJ.eq0_t (tgt := 28) (pc1 := 18) (JX.il (k := 1) rfl dX12_isFile_17) dX12_isFile_18 rfl)) (CJ.gt_f (tgt := 30) (pc1 := 22) (pc2 := 25) (JX.il (k := 1) rfl dX12_isFile_21) (JX.sp (n := 400) ks400 dX12_isFile_22) dX12_isFile_25 rfl) (Or.inl rfl)) (JS.retI (pc1 := 29) (JX.ic (n := 0) rfl dX12_isFile_28) dX12_isFile_29) (Or.inl rfl)) (JS.seq (pc1 := 55) (JS.sc (JS.seq (pc1 := 32) (JS.is (pc1 := 31) (k := 2) (JX.ic (n := 0) rfl dX12_isFile_30) rfl (show 2 < 3 by decide) dX12_isFile_31) (JS.while (l := 55) (lb := 55) (pc1 := 37) (pc2 := 52) (pc3 := 55) (CJ.lt_f (tgt := 55) (pc1 := 33) (pc2 := 34) (JX.il (k := 2) rfl dX12_isFile_32) (JX.il (k := 1) rfl dX12_isFile_33) dX12_isFile_34 rfl) (JS.forb (pc1 := 49) (JS.ia (pc1 := 41) (pc2 := 42) (pc3 := 48) (JX.getR (pc1 := 38) (c := 12) (k := 50) (i := 167) (JX.al (k := 0) rfl dX12_isFile_37) cl12 (by decide) rfl fk12_167 dX12_isFile_38) (JX.il (k := 2) rfl dX12_isFile_41) (JX.iald (pc1 := 46) (pc2 := 47) (JX.getR (pc1 := 43) (c := 12) (k := 0) (i := 9) (JX.al (k := 0) rfl dX12_isFile_42) cl12 (by decide) rfl fk12_9 dX12_isFile_43) (JX.il (k := 2) rfl dX12_isFile_46) dX12_isFile_47) dX12_isFile_48) (JS.inc (n := 1) rfl (show 2 < 3 by decide) dX12_isFile_49)) dX12_isFile_52 rfl (Or.inl rfl) (Or.inl rfl)))) (JS.seq (pc1 := 60) (JS.pI (pc1 := 56) (pc2 := 57) (c := 12) (k := 51) (i := 170) (JX.al (k := 0) rfl dX12_isFile_55) (JX.il (k := 1) rfl dX12_isFile_56) cl12 (by decide) rfl fk12_170 (Or.inl rfl) dX12_isFile_57) (JS.retI (pc1 := 61) (JX.ic (n := 1) rfl dX12_isFile_60) dX12_isFile_61))))))
def mX12_isFile : MS := runM 3 (some (.boolean)) bX12_isFile
theorem aX12_isFile : MA yX12_isFile cX12_isFile 3 (some (.boolean)) 1 mX12_isFile := MA.of (plainFor_of_name (by decide)) jX12_isFile
theorem eX12_isFile (a0 : Nat) (h : AH) : mX12_isFile [.ref a0] h = (bX12_isFile [.val (.ref a0), .unset, .unset] h).bind (finM (some (.boolean))) := rfl
/-! PieceStoreModel.rolling -/
theorem dX12_rolling_0 : decode cX12_rolling 0 = .ok (.iconst 0, 1) := by decide +kernel
theorem dX12_rolling_1 : decode cX12_rolling 1 = .ok (.istore_n 3, 1) := by decide +kernel
theorem dX12_rolling_2 : decode cX12_rolling 2 = .ok (.iconst 1, 1) := by decide +kernel
theorem dX12_rolling_3 : decode cX12_rolling 3 = .ok (.istore 4, 2) := by decide +kernel
theorem dX12_rolling_5 : decode cX12_rolling 5 = .ok (.iconst 0, 1) := by decide +kernel
theorem dX12_rolling_6 : decode cX12_rolling 6 = .ok (.istore 5, 2) := by decide +kernel
theorem dX12_rolling_8 : decode cX12_rolling 8 = .ok (.iload 5, 2) := by decide +kernel
theorem dX12_rolling_10 : decode cX12_rolling 10 = .ok (.iload_n 2, 1) := by decide +kernel
theorem dX12_rolling_11 : decode cX12_rolling 11 = .ok (.if_icmp .ge 45, 3) := by decide +kernel
theorem dX12_rolling_14 : decode cX12_rolling 14 = .ok (.iload 5, 2) := by decide +kernel
theorem dX12_rolling_16 : decode cX12_rolling 16 = .ok (.iload_n 1, 1) := by decide +kernel
theorem dX12_rolling_17 : decode cX12_rolling 17 = .ok (.if_icmp .gt 39, 3) := by decide +kernel
theorem dX12_rolling_20 : decode cX12_rolling 20 = .ok (.iload_n 3, 1) := by decide +kernel
theorem dX12_rolling_21 : decode cX12_rolling 21 = .ok (.aload_n 0, 1) := by decide +kernel
theorem dX12_rolling_22 : decode cX12_rolling 22 = .ok (.getfield 167, 3) := by decide +kernel
theorem dX12_rolling_25 : decode cX12_rolling 25 = .ok (.iload_n 1, 1) := by decide +kernel
theorem dX12_rolling_26 : decode cX12_rolling 26 = .ok (.iload 5, 2) := by decide +kernel
theorem dX12_rolling_28 : decode cX12_rolling 28 = .ok (.isub, 1) := by decide +kernel
theorem dX12_rolling_29 : decode cX12_rolling 29 = .ok (.iaload, 1) := by decide +kernel
theorem dX12_rolling_30 : decode cX12_rolling 30 = .ok (.iload 4, 2) := by decide +kernel
theorem dX12_rolling_32 : decode cX12_rolling 32 = .ok (.imul, 1) := by decide +kernel
theorem dX12_rolling_33 : decode cX12_rolling 33 = .ok (.iadd, 1) := by decide +kernel
theorem dX12_rolling_34 : decode cX12_rolling 34 = .ok (.sipush 1009, 3) := by decide +kernel
theorem dX12_rolling_37 : decode cX12_rolling 37 = .ok (.irem, 1) := by decide +kernel
theorem dX12_rolling_38 : decode cX12_rolling 38 = .ok (.istore_n 3, 1) := by decide +kernel
theorem dX12_rolling_39 : decode cX12_rolling 39 = .ok (.iload 4, 2) := by decide +kernel
theorem dX12_rolling_41 : decode cX12_rolling 41 = .ok (.bipush 31, 2) := by decide +kernel
theorem dX12_rolling_43 : decode cX12_rolling 43 = .ok (.imul, 1) := by decide +kernel
theorem dX12_rolling_44 : decode cX12_rolling 44 = .ok (.sipush 1009, 3) := by decide +kernel
theorem dX12_rolling_47 : decode cX12_rolling 47 = .ok (.irem, 1) := by decide +kernel
theorem dX12_rolling_48 : decode cX12_rolling 48 = .ok (.istore 4, 2) := by decide +kernel
theorem dX12_rolling_50 : decode cX12_rolling 50 = .ok (.iinc 5 1, 3) := by decide +kernel
theorem dX12_rolling_53 : decode cX12_rolling 53 = .ok (.goto (-45), 3) := by decide +kernel
theorem dX12_rolling_56 : decode cX12_rolling 56 = .ok (.iload_n 3, 1) := by decide +kernel
theorem dX12_rolling_57 : decode cX12_rolling 57 = .ok (.ireturn, 1) := by decide +kernel
abbrev MX12_rolling : MI := (RX12, cX12_rolling, 6, 1, false)
def lcX12_rolling_1 : Ex Bool := (andX (ltI (lvI 5) (lvI 2)) (leI (lvI 5) (lvI 1)))
def lbX12_rolling_1 : St := (forB (seqS (lsI 3 (remI (addI (lvI 3) (mulI (aldI 2 (getR 12 50 (lvR 0)) (subI (lvI 1) (lvI 5))) (lvI 4))) (ciI (iI 1009)))) (lsI 4 (remI (mulI (lvI 4) (ciI (iI 31))) (ciI (iI 1009))))) (incI 5 (iI 1)))
def bX12_rolling : St := (seqS (lsI 3 (ciI (iI 0))) (seqS (lsI 4 (ciI (iI 1))) (seqS (scS 5 (seqS (lsI 5 (ciI (iI 0))) (whileS lcX12_rolling_1 lbX12_rolling_1))) (retI (lvI 3)))))
theorem jX12_rolling : JS MX12_rolling 0 0 0 58 [] bX12_rolling :=
  (JS.seq (pc1 := 2) (JS.is (pc1 := 1) (k := 3) (JX.ic (n := 0) rfl dX12_rolling_0) rfl (show 3 < 6 by decide) dX12_rolling_1) (JS.seq (pc1 := 5) (JS.is2 (pc1 := 3) (JX.ic (n := 1) rfl dX12_rolling_2) (show 4 < 6 by decide) dX12_rolling_3) (JS.seq (pc1 := 56) (JS.sc (JS.seq (pc1 := 8) (JS.is2 (pc1 := 6) (JX.ic (n := 0) rfl dX12_rolling_5) (show 5 < 6 by decide) dX12_rolling_6) (JS.while (l := 56) (lb := 56) (pc1 := 20) (pc2 := 53) (pc3 := 56) (CJ.and_f (pc1 := 14) (CJ.lt_f (tgt := 56) (pc1 := 10) (pc2 := 11) (JX.il2 dX12_rolling_8) (JX.il (k := 2) rfl dX12_rolling_10) dX12_rolling_11 rfl) (CJ.le_f (tgt := 56) (pc1 := 16) (pc2 := 17) (JX.il2 dX12_rolling_14) (JX.il (k := 1) rfl dX12_rolling_16) dX12_rolling_17 rfl)) (JS.forb (pc1 := 50) (JS.seq (pc1 := 39) (JS.is (pc1 := 38) (k := 3) (JX.irem (pc1 := 34) (pc2 := 37) (JX.iadd (pc1 := 21) (pc2 := 33) (JX.il (k := 3) rfl dX12_rolling_20) (JX.imul (pc1 := 30) (pc2 := 32) (JX.iald (pc1 := 25) (pc2 := 29) (JX.getR (pc1 := 22) (c := 12) (k := 50) (i := 167) (JX.al (k := 0) rfl dX12_rolling_21) cl12 (by decide) rfl fk12_167 dX12_rolling_22) (JX.isub (pc1 := 26) (pc2 := 28) (JX.il (k := 1) rfl dX12_rolling_25) (JX.il2 dX12_rolling_26) dX12_rolling_28) dX12_rolling_29) (JX.il2 dX12_rolling_30) dX12_rolling_32) dX12_rolling_33) (JX.sp (n := 1009) ks1009 dX12_rolling_34) dX12_rolling_37) rfl (show 3 < 6 by decide) dX12_rolling_38) (JS.is2 (pc1 := 48) (JX.irem (pc1 := 44) (pc2 := 47) (JX.imul (pc1 := 41) (pc2 := 43) (JX.il2 dX12_rolling_39) (JX.bp (n := 31) kb31 dX12_rolling_41) dX12_rolling_43) (JX.sp (n := 1009) ks1009 dX12_rolling_44) dX12_rolling_47) (show 4 < 6 by decide) dX12_rolling_48)) (JS.inc (n := 1) rfl (show 5 < 6 by decide) dX12_rolling_50)) dX12_rolling_53 rfl (Or.inl rfl) (Or.inl rfl)))) (JS.retI (pc1 := 57) (JX.il (k := 3) rfl dX12_rolling_56) dX12_rolling_57))))
def mX12_rolling : MS := runM 6 (some (.int)) bX12_rolling
theorem aX12_rolling : MA yX12_rolling cX12_rolling 6 (some (.int)) 1 mX12_rolling := MA.of (plainFor_of_name (by decide)) jX12_rolling
theorem eX12_rolling (a0 : Nat) (a1 : Int32) (a2 : Int32) (h : AH) : mX12_rolling [.ref a0, .int a1, .int a2] h = (bX12_rolling [.val (.ref a0), .val (.int a1), .val (.int a2), .unset, .unset, .unset] h).bind (finM (some (.int))) := rfl
/-! PieceStoreModel.isBorder -/
theorem dX12_isBorder_0 : decode cX12_isBorder 0 = .ok (.aload_n 0, 1) := by decide +kernel
theorem dX12_isBorder_1 : decode cX12_isBorder 1 = .ok (.iload_n 1, 1) := by decide +kernel
theorem dX12_isBorder_2 : decode cX12_isBorder 2 = .ok (.iload_n 3, 1) := by decide +kernel
theorem dX12_isBorder_3 : decode cX12_isBorder 3 = .ok (.invokevirtual 408, 3) := by decide +kernel
theorem dX12_isBorder_6 : decode cX12_isBorder 6 = .ok (.istore 4, 2) := by decide +kernel
theorem dX12_isBorder_8 : decode cX12_isBorder 8 = .ok (.aload_n 0, 1) := by decide +kernel
theorem dX12_isBorder_9 : decode cX12_isBorder 9 = .ok (.iconst 0, 1) := by decide +kernel
theorem dX12_isBorder_10 : decode cX12_isBorder 10 = .ok (.invokevirtual 411, 3) := by decide +kernel
theorem dX12_isBorder_13 : decode cX12_isBorder 13 = .ok (.ifCond .ne 30, 3) := by decide +kernel
theorem dX12_isBorder_16 : decode cX12_isBorder 16 = .ok (.iload 4, 2) := by decide +kernel
theorem dX12_isBorder_18 : decode cX12_isBorder 18 = .ok (.iload_n 2, 1) := by decide +kernel
theorem dX12_isBorder_19 : decode cX12_isBorder 19 = .ok (.aload_n 0, 1) := by decide +kernel
theorem dX12_isBorder_20 : decode cX12_isBorder 20 = .ok (.iconst 3, 1) := by decide +kernel
theorem dX12_isBorder_21 : decode cX12_isBorder 21 = .ok (.invokevirtual 414, 3) := by decide +kernel
theorem dX12_isBorder_24 : decode cX12_isBorder 24 = .ok (.if_icmp .ge 8, 3) := by decide +kernel
theorem dX12_isBorder_27 : decode cX12_isBorder 27 = .ok (.bipush 8, 2) := by decide +kernel
theorem dX12_isBorder_29 : decode cX12_isBorder 29 = .ok (.goto 4, 3) := by decide +kernel
theorem dX12_isBorder_32 : decode cX12_isBorder 32 = .ok (.iconst 3, 1) := by decide +kernel
theorem dX12_isBorder_33 : decode cX12_isBorder 33 = .ok (.irem, 1) := by decide +kernel
theorem dX12_isBorder_34 : decode cX12_isBorder 34 = .ok (.ifCond .ne 7, 3) := by decide +kernel
theorem dX12_isBorder_37 : decode cX12_isBorder 37 = .ok (.iconst 1, 1) := by decide +kernel
theorem dX12_isBorder_38 : decode cX12_isBorder 38 = .ok (.goto 4, 3) := by decide +kernel
theorem dX12_isBorder_41 : decode cX12_isBorder 41 = .ok (.iconst 0, 1) := by decide +kernel
theorem dX12_isBorder_42 : decode cX12_isBorder 42 = .ok (.ireturn, 1) := by decide +kernel
theorem dX12_isBorder_43 : decode cX12_isBorder 43 = .ok (.aload_n 0, 1) := by decide +kernel
theorem dX12_isBorder_44 : decode cX12_isBorder 44 = .ok (.getfield 164, 3) := by decide +kernel
theorem dX12_isBorder_47 : decode cX12_isBorder 47 = .ok (.iconst 3, 1) := by decide +kernel
theorem dX12_isBorder_48 : decode cX12_isBorder 48 = .ok (.iload 4, 2) := by decide +kernel
theorem dX12_isBorder_50 : decode cX12_isBorder 50 = .ok (.iastore, 1) := by decide +kernel
theorem dX12_isBorder_51 : decode cX12_isBorder 51 = .ok (.aload_n 0, 1) := by decide +kernel
theorem dX12_isBorder_52 : decode cX12_isBorder 52 = .ok (.getfield 164, 3) := by decide +kernel
theorem dX12_isBorder_55 : decode cX12_isBorder 55 = .ok (.iconst 2, 1) := by decide +kernel
theorem dX12_isBorder_56 : decode cX12_isBorder 56 = .ok (.iload_n 2, 1) := by decide +kernel
theorem dX12_isBorder_57 : decode cX12_isBorder 57 = .ok (.iastore, 1) := by decide +kernel
theorem dX12_isBorder_58 : decode cX12_isBorder 58 = .ok (.aload_n 0, 1) := by decide +kernel
theorem dX12_isBorder_59 : decode cX12_isBorder 59 = .ok (.getfield 164, 3) := by decide +kernel
theorem dX12_isBorder_62 : decode cX12_isBorder 62 = .ok (.iconst 4, 1) := by decide +kernel
theorem dX12_isBorder_63 : decode cX12_isBorder 63 = .ok (.aload_n 0, 1) := by decide +kernel
theorem dX12_isBorder_64 : decode cX12_isBorder 64 = .ok (.getfield 167, 3) := by decide +kernel
theorem dX12_isBorder_67 : decode cX12_isBorder 67 = .ok (.iload_n 1, 1) := by decide +kernel
theorem dX12_isBorder_68 : decode cX12_isBorder 68 = .ok (.iaload, 1) := by decide +kernel
theorem dX12_isBorder_69 : decode cX12_isBorder 69 = .ok (.iastore, 1) := by decide +kernel
theorem dX12_isBorder_70 : decode cX12_isBorder 70 = .ok (.aload_n 0, 1) := by decide +kernel
theorem dX12_isBorder_71 : decode cX12_isBorder 71 = .ok (.getfield 164, 3) := by decide +kernel
theorem dX12_isBorder_74 : decode cX12_isBorder 74 = .ok (.iconst 5, 1) := by decide +kernel
theorem dX12_isBorder_75 : decode cX12_isBorder 75 = .ok (.aload_n 0, 1) := by decide +kernel
theorem dX12_isBorder_76 : decode cX12_isBorder 76 = .ok (.iconst 3, 1) := by decide +kernel
theorem dX12_isBorder_77 : decode cX12_isBorder 77 = .ok (.invokevirtual 414, 3) := by decide +kernel
theorem dX12_isBorder_80 : decode cX12_isBorder 80 = .ok (.iastore, 1) := by decide +kernel
theorem dX12_isBorder_81 : decode cX12_isBorder 81 = .ok (.aload_n 0, 1) := by decide +kernel
theorem dX12_isBorder_82 : decode cX12_isBorder 82 = .ok (.iconst 0, 1) := by decide +kernel
theorem dX12_isBorder_83 : decode cX12_isBorder 83 = .ok (.invokevirtual 417, 3) := by decide +kernel
theorem dX12_isBorder_86 : decode cX12_isBorder 86 = .ok (.ireturn, 1) := by decide +kernel
abbrev MX12_isBorder : MI := (RX12, cX12_isBorder, 5, 4, false)
def bX12_isBorder : St := (seqS (lsI 4 (calX decI (ckV 12 2) mX12_rolling (agC va_rf (lvR 0) (agC Value.int (lvI 1) (agC Value.int (lvI 3) agN))))) (seqS (ifS (notX (ne0 (calX decI (ckV 12 1) mX12_isTold (agC va_rf (lvR 0) (agC Value.int (ciI (iI 0)) agN))))) (retI (iteX (eq0 (remI (lvI 4) (iteX (ltI (lvI 2) (calX decI (ckV 12 1) mX12_by (agC va_rf (lvR 0) (agC Value.int (ciI (iI 3)) agN)))) (ciI (iI 8)) (ciI (iI 3))))) (ciI (iI 1)) (ciI (iI 0))))) (seqS (astI (getR 12 49 (lvR 0)) (ciI (iI 3)) (lvI 4)) (seqS (astI (getR 12 49 (lvR 0)) (ciI (iI 2)) (lvI 2)) (seqS (astI (getR 12 49 (lvR 0)) (ciI (iI 4)) (aldI 2 (getR 12 50 (lvR 0)) (lvI 1))) (seqS (astI (getR 12 49 (lvR 0)) (ciI (iI 5)) (calX decI (ckV 12 1) mX12_by (agC va_rf (lvR 0) (agC Value.int (ciI (iI 3)) agN)))) (retI (calX decI (ckV 12 1) mX12_holds (agC va_rf (lvR 0) (agC Value.int (ciI (iI 0)) agN))))))))))
theorem jX12_isBorder : JS MX12_isBorder 0 0 0 87 [] bX12_isBorder :=
  (JS.seq (pc1 := 8) (JS.is2 (pc1 := 6) (JX.call (pc1 := 3) decI_ok (JA.r (JX.al (k := 0) rfl dX12_isBorder_0) (JA.i (JX.il (k := 1) rfl dX12_isBorder_1) (JA.i (JX.il (k := 3) rfl dX12_isBorder_2) JA.nil))) aX12_rolling (RunK.V (i := 408) (c := 12) (n := 2) cl12 rfl (CN nX12_rolling (by decide) (by decide)) gw1726 gw1728 gs86 dX12_isBorder_3) (by decide)) (show 4 < 5 by decide) dX12_isBorder_6) (JS.seq (pc1 := 43) (JS.iff (l := 43) (pc1 := 16) (CJ.not_f (CJ.ne0_t (tgt := 43) (pc1 := 13) (JX.call (pc1 := 10) decI_ok (JA.r (JX.al (k := 0) rfl dX12_isBorder_8) (JA.i (JX.ic (n := 0) rfl dX12_isBorder_9) JA.nil)) aX12_isTold (RunK.V (i := 411) (c := 12) (n := 1) cl12 rfl (CN nX12_isTold (by decide) (by decide)) gw1730 gw1732 gs87 dX12_isBorder_10) (by decide)) dX12_isBorder_13 rfl)) (JS.retI (pc1 := 42) (JX.ite (l := 41) (pc1 := 37) (pc2 := 38) (pc3 := 42) (lend := 42) (CJ.eq0_f (tgt := 41) (pc1 := 34) (JX.irem (pc1 := 18) (pc2 := 33) (JX.il2 dX12_isBorder_16) (JX.ite (l := 32) (pc1 := 27) (pc2 := 29) (pc3 := 33) (lend := 33) (CJ.lt_f (tgt := 32) (pc1 := 19) (pc2 := 24) (JX.il (k := 2) rfl dX12_isBorder_18) (JX.call (pc1 := 21) decI_ok (JA.r (JX.al (k := 0) rfl dX12_isBorder_19) (JA.i (JX.ic (n := 3) rfl dX12_isBorder_20) JA.nil)) aX12_by (RunK.V (i := 414) (c := 12) (n := 1) cl12 rfl (CN nX12_by (by decide) (by decide)) gw1714 gw1716 gs83 dX12_isBorder_21) (by decide)) dX12_isBorder_24 rfl) (JX.bp (n := 8) kb8 dX12_isBorder_27) dX12_isBorder_29 rfl (JX.ic (n := 3) rfl dX12_isBorder_32) (Or.inl rfl)) dX12_isBorder_33) dX12_isBorder_34 rfl) (JX.ic (n := 1) rfl dX12_isBorder_37) dX12_isBorder_38 rfl (JX.ic (n := 0) rfl dX12_isBorder_41) (Or.inl rfl)) dX12_isBorder_42) (Or.inl rfl)) (JS.seq (pc1 := 51) (JS.ia (pc1 := 47) (pc2 := 48) (pc3 := 50) (JX.getR (pc1 := 44) (c := 12) (k := 49) (i := 164) (JX.al (k := 0) rfl dX12_isBorder_43) cl12 (by decide) rfl fk12_164 dX12_isBorder_44) (JX.ic (n := 3) rfl dX12_isBorder_47) (JX.il2 dX12_isBorder_48) dX12_isBorder_50) (JS.seq (pc1 := 58) (JS.ia (pc1 := 55) (pc2 := 56) (pc3 := 57) (JX.getR (pc1 := 52) (c := 12) (k := 49) (i := 164) (JX.al (k := 0) rfl dX12_isBorder_51) cl12 (by decide) rfl fk12_164 dX12_isBorder_52) (JX.ic (n := 2) rfl dX12_isBorder_55) (JX.il (k := 2) rfl dX12_isBorder_56) dX12_isBorder_57) (JS.seq (pc1 := 70) (JS.ia (pc1 := 62) (pc2 := 63) (pc3 := 69) (JX.getR (pc1 := 59) (c := 12) (k := 49) (i := 164) (JX.al (k := 0) rfl dX12_isBorder_58) cl12 (by decide) rfl fk12_164 dX12_isBorder_59) (JX.ic (n := 4) rfl dX12_isBorder_62) (JX.iald (pc1 := 67) (pc2 := 68) (JX.getR (pc1 := 64) (c := 12) (k := 50) (i := 167) (JX.al (k := 0) rfl dX12_isBorder_63) cl12 (by decide) rfl fk12_167 dX12_isBorder_64) (JX.il (k := 1) rfl dX12_isBorder_67) dX12_isBorder_68) dX12_isBorder_69) (JS.seq (pc1 := 81) (JS.ia (pc1 := 74) (pc2 := 75) (pc3 := 80) (JX.getR (pc1 := 71) (c := 12) (k := 49) (i := 164) (JX.al (k := 0) rfl dX12_isBorder_70) cl12 (by decide) rfl fk12_164 dX12_isBorder_71) (JX.ic (n := 5) rfl dX12_isBorder_74) (JX.call (pc1 := 77) decI_ok (JA.r (JX.al (k := 0) rfl dX12_isBorder_75) (JA.i (JX.ic (n := 3) rfl dX12_isBorder_76) JA.nil)) aX12_by (RunK.V (i := 414) (c := 12) (n := 1) cl12 rfl (CN nX12_by (by decide) (by decide)) gw1714 gw1716 gs83 dX12_isBorder_77) (by decide)) dX12_isBorder_80) (JS.retI (pc1 := 86) (JX.call (pc1 := 83) decI_ok (JA.r (JX.al (k := 0) rfl dX12_isBorder_81) (JA.i (JX.ic (n := 0) rfl dX12_isBorder_82) JA.nil)) aX12_holds (RunK.V (i := 417) (c := 12) (n := 1) cl12 rfl (CN nX12_holds (by decide) (by decide)) gw1734 gw1736 gs88 dX12_isBorder_83) (by decide)) dX12_isBorder_86)))))))
def mX12_isBorder : MS := runM 5 (some (.boolean)) bX12_isBorder
theorem aX12_isBorder : MA yX12_isBorder cX12_isBorder 5 (some (.boolean)) 4 mX12_isBorder := MA.of (plainFor_of_name (by decide)) jX12_isBorder
theorem eX12_isBorder (a0 : Nat) (a1 : Int32) (a2 : Int32) (a3 : Int32) (h : AH) : mX12_isBorder [.ref a0, .int a1, .int a2, .int a3] h = (bX12_isBorder [.val (.ref a0), .val (.int a1), .val (.int a2), .val (.int a3), .unset] h).bind (finM (some (.boolean))) := rfl
/-! PieceStoreModel.cutsBy -/
theorem dX12_cutsBy_0 : decode cX12_cutsBy 0 = .ok (.aload_n 0, 1) := by decide +kernel
theorem dX12_cutsBy_1 : decode cX12_cutsBy 1 = .ok (.iconst 0, 1) := by decide +kernel
theorem dX12_cutsBy_2 : decode cX12_cutsBy 2 = .ok (.putfield 176, 3) := by decide +kernel
theorem dX12_cutsBy_5 : decode cX12_cutsBy 5 = .ok (.aload_n 0, 1) := by decide +kernel
theorem dX12_cutsBy_6 : decode cX12_cutsBy 6 = .ok (.getfield 173, 3) := by decide +kernel
theorem dX12_cutsBy_9 : decode cX12_cutsBy 9 = .ok (.iconst 0, 1) := by decide +kernel
theorem dX12_cutsBy_10 : decode cX12_cutsBy 10 = .ok (.iconst 0, 1) := by decide +kernel
theorem dX12_cutsBy_11 : decode cX12_cutsBy 11 = .ok (.iastore, 1) := by decide +kernel
theorem dX12_cutsBy_12 : decode cX12_cutsBy 12 = .ok (.iconst 0, 1) := by decide +kernel
theorem dX12_cutsBy_13 : decode cX12_cutsBy 13 = .ok (.istore_n 2, 1) := by decide +kernel
theorem dX12_cutsBy_14 : decode cX12_cutsBy 14 = .ok (.iload_n 2, 1) := by decide +kernel
theorem dX12_cutsBy_15 : decode cX12_cutsBy 15 = .ok (.aload_n 0, 1) := by decide +kernel
theorem dX12_cutsBy_16 : decode cX12_cutsBy 16 = .ok (.getfield 170, 3) := by decide +kernel
theorem dX12_cutsBy_19 : decode cX12_cutsBy 19 = .ok (.if_icmp .ge 102, 3) := by decide +kernel
theorem dX12_cutsBy_22 : decode cX12_cutsBy 22 = .ok (.iload_n 2, 1) := by decide +kernel
theorem dX12_cutsBy_23 : decode cX12_cutsBy 23 = .ok (.iconst 1, 1) := by decide +kernel
theorem dX12_cutsBy_24 : decode cX12_cutsBy 24 = .ok (.iadd, 1) := by decide +kernel
theorem dX12_cutsBy_25 : decode cX12_cutsBy 25 = .ok (.aload_n 0, 1) := by decide +kernel
theorem dX12_cutsBy_26 : decode cX12_cutsBy 26 = .ok (.getfield 173, 3) := by decide +kernel
theorem dX12_cutsBy_29 : decode cX12_cutsBy 29 = .ok (.aload_n 0, 1) := by decide +kernel
theorem dX12_cutsBy_30 : decode cX12_cutsBy 30 = .ok (.getfield 176, 3) := by decide +kernel
theorem dX12_cutsBy_33 : decode cX12_cutsBy 33 = .ok (.iaload, 1) := by decide +kernel
theorem dX12_cutsBy_34 : decode cX12_cutsBy 34 = .ok (.isub, 1) := by decide +kernel
theorem dX12_cutsBy_35 : decode cX12_cutsBy 35 = .ok (.istore_n 3, 1) := by decide +kernel
theorem dX12_cutsBy_36 : decode cX12_cutsBy 36 = .ok (.iload_n 2, 1) := by decide +kernel
theorem dX12_cutsBy_37 : decode cX12_cutsBy 37 = .ok (.aload_n 0, 1) := by decide +kernel
theorem dX12_cutsBy_38 : decode cX12_cutsBy 38 = .ok (.getfield 170, 3) := by decide +kernel
theorem dX12_cutsBy_41 : decode cX12_cutsBy 41 = .ok (.iconst 1, 1) := by decide +kernel
theorem dX12_cutsBy_42 : decode cX12_cutsBy 42 = .ok (.isub, 1) := by decide +kernel
theorem dX12_cutsBy_43 : decode cX12_cutsBy 43 = .ok (.if_icmp .eq 12, 3) := by decide +kernel
theorem dX12_cutsBy_46 : decode cX12_cutsBy 46 = .ok (.iload_n 3, 1) := by decide +kernel
theorem dX12_cutsBy_47 : decode cX12_cutsBy 47 = .ok (.aload_n 0, 1) := by decide +kernel
theorem dX12_cutsBy_48 : decode cX12_cutsBy 48 = .ok (.iconst 4, 1) := by decide +kernel
theorem dX12_cutsBy_49 : decode cX12_cutsBy 49 = .ok (.invokevirtual 414, 3) := by decide +kernel
theorem dX12_cutsBy_52 : decode cX12_cutsBy 52 = .ok (.if_icmp .lt 7, 3) := by decide +kernel
theorem dX12_cutsBy_55 : decode cX12_cutsBy 55 = .ok (.iconst 1, 1) := by decide +kernel
theorem dX12_cutsBy_56 : decode cX12_cutsBy 56 = .ok (.goto 4, 3) := by decide +kernel
theorem dX12_cutsBy_59 : decode cX12_cutsBy 59 = .ok (.iconst 0, 1) := by decide +kernel
theorem dX12_cutsBy_60 : decode cX12_cutsBy 60 = .ok (.istore 4, 2) := by decide +kernel
theorem dX12_cutsBy_62 : decode cX12_cutsBy 62 = .ok (.iload 4, 2) := by decide +kernel
theorem dX12_cutsBy_64 : decode cX12_cutsBy 64 = .ok (.ifCond .ne 21, 3) := by decide +kernel
theorem dX12_cutsBy_67 : decode cX12_cutsBy 67 = .ok (.iload_n 3, 1) := by decide +kernel
theorem dX12_cutsBy_68 : decode cX12_cutsBy 68 = .ok (.aload_n 0, 1) := by decide +kernel
theorem dX12_cutsBy_69 : decode cX12_cutsBy 69 = .ok (.iconst 2, 1) := by decide +kernel
theorem dX12_cutsBy_70 : decode cX12_cutsBy 70 = .ok (.invokevirtual 414, 3) := by decide +kernel
theorem dX12_cutsBy_73 : decode cX12_cutsBy 73 = .ok (.if_icmp .lt 12, 3) := by decide +kernel
theorem dX12_cutsBy_76 : decode cX12_cutsBy 76 = .ok (.aload_n 0, 1) := by decide +kernel
theorem dX12_cutsBy_77 : decode cX12_cutsBy 77 = .ok (.iload_n 2, 1) := by decide +kernel
theorem dX12_cutsBy_78 : decode cX12_cutsBy 78 = .ok (.iload_n 3, 1) := by decide +kernel
theorem dX12_cutsBy_79 : decode cX12_cutsBy 79 = .ok (.iload_n 1, 1) := by decide +kernel
theorem dX12_cutsBy_80 : decode cX12_cutsBy 80 = .ok (.invokevirtual 420, 3) := by decide +kernel
theorem dX12_cutsBy_83 : decode cX12_cutsBy 83 = .ok (.istore 4, 2) := by decide +kernel
theorem dX12_cutsBy_85 : decode cX12_cutsBy 85 = .ok (.iload 4, 2) := by decide +kernel
theorem dX12_cutsBy_87 : decode cX12_cutsBy 87 = .ok (.ifCond .ne 6, 3) := by decide +kernel
theorem dX12_cutsBy_90 : decode cX12_cutsBy 90 = .ok (.goto 25, 3) := by decide +kernel
theorem dX12_cutsBy_93 : decode cX12_cutsBy 93 = .ok (.aload_n 0, 1) := by decide +kernel
theorem dX12_cutsBy_94 : decode cX12_cutsBy 94 = .ok (.dup, 1) := by decide +kernel
theorem dX12_cutsBy_95 : decode cX12_cutsBy 95 = .ok (.getfield 176, 3) := by decide +kernel
theorem dX12_cutsBy_98 : decode cX12_cutsBy 98 = .ok (.iconst 1, 1) := by decide +kernel
theorem dX12_cutsBy_99 : decode cX12_cutsBy 99 = .ok (.iadd, 1) := by decide +kernel
theorem dX12_cutsBy_100 : decode cX12_cutsBy 100 = .ok (.putfield 176, 3) := by decide +kernel
theorem dX12_cutsBy_103 : decode cX12_cutsBy 103 = .ok (.aload_n 0, 1) := by decide +kernel
theorem dX12_cutsBy_104 : decode cX12_cutsBy 104 = .ok (.getfield 173, 3) := by decide +kernel
theorem dX12_cutsBy_107 : decode cX12_cutsBy 107 = .ok (.aload_n 0, 1) := by decide +kernel
theorem dX12_cutsBy_108 : decode cX12_cutsBy 108 = .ok (.getfield 176, 3) := by decide +kernel
theorem dX12_cutsBy_111 : decode cX12_cutsBy 111 = .ok (.iload_n 2, 1) := by decide +kernel
theorem dX12_cutsBy_112 : decode cX12_cutsBy 112 = .ok (.iconst 1, 1) := by decide +kernel
theorem dX12_cutsBy_113 : decode cX12_cutsBy 113 = .ok (.iadd, 1) := by decide +kernel
theorem dX12_cutsBy_114 : decode cX12_cutsBy 114 = .ok (.iastore, 1) := by decide +kernel
theorem dX12_cutsBy_115 : decode cX12_cutsBy 115 = .ok (.iinc 2 1, 3) := by decide +kernel
theorem dX12_cutsBy_118 : decode cX12_cutsBy 118 = .ok (.goto (-104), 3) := by decide +kernel
theorem dX12_cutsBy_121 : decode cX12_cutsBy 121 = .ok (.return_, 1) := by decide +kernel
abbrev MX12_cutsBy : MI := (RX12, cX12_cutsBy, 5, 5, false)
def lcX12_cutsBy_1 : Ex Bool := (ltI (lvI 2) (getI 12 51 (lvR 0)))
def lbX12_cutsBy_1 : St := (forB (scS 3 (seqS (lsI 3 (subI (addI (lvI 2) (ciI (iI 1))) (aldI 2 (getR 12 52 (lvR 0)) (getI 12 53 (lvR 0))))) (seqS (lsI 4 (iteX (orX (eqI (lvI 2) (subI (getI 12 51 (lvR 0)) (ciI (iI 1)))) (geI (lvI 3) (calX decI (ckV 12 1) mX12_by (agC va_rf (lvR 0) (agC Value.int (ciI (iI 4)) agN))))) (ciI (iI 1)) (ciI (iI 0)))) (seqS (ifS (andX (notX (ne0 (lvI 4))) (geI (lvI 3) (calX decI (ckV 12 1) mX12_by (agC va_rf (lvR 0) (agC Value.int (ciI (iI 2)) agN))))) (lsI 4 (calX decI (ckV 12 3) mX12_isBorder (agC va_rf (lvR 0) (agC Value.int (lvI 2) (agC Value.int (lvI 3) (agC Value.int (lvI 1) agN))))))) (seqS (ifS (notX (ne0 (lvI 4))) contS) (seqS (updI 12 53 (fun x y => x + y) (lvR 0) (ciI (iI 1))) (astI (getR 12 52 (lvR 0)) (getI 12 53 (lvR 0)) (addI (lvI 2) (ciI (iI 1)))))))))) (incI 2 (iI 1)))
def bX12_cutsBy : St := (seqS (putI 12 53 (lvR 0) (ciI (iI 0))) (seqS (astI (getR 12 52 (lvR 0)) (ciI (iI 0)) (ciI (iI 0))) (seqS (scS 2 (seqS (lsI 2 (ciI (iI 0))) (whileS lcX12_cutsBy_1 lbX12_cutsBy_1))) retV)))
theorem jX12_cutsBy : JS MX12_cutsBy 0 0 0 122 [] bX12_cutsBy :=
  (JS.seq (pc1 := 5) (JS.pI (pc1 := 1) (pc2 := 2) (c := 12) (k := 53) (i := 176) (JX.al (k := 0) rfl dX12_cutsBy_0) (JX.ic (n := 0) rfl dX12_cutsBy_1) cl12 (by decide) rfl fk12_176 (Or.inl rfl) dX12_cutsBy_2) (JS.seq (pc1 := 12) (JS.ia (pc1 := 9) (pc2 := 10) (pc3 := 11) (JX.getR (pc1 := 6) (c := 12) (k := 52) (i := 173) (JX.al (k := 0) rfl dX12_cutsBy_5) cl12 (by decide) rfl fk12_173 dX12_cutsBy_6) (JX.ic (n := 0) rfl dX12_cutsBy_9) (JX.ic (n := 0) rfl dX12_cutsBy_10) dX12_cutsBy_11) (JS.seq (pc1 := 121) (JS.sc (JS.seq (pc1 := 14) (JS.is (pc1 := 13) (k := 2) (JX.ic (n := 0) rfl dX12_cutsBy_12) rfl (show 2 < 5 by decide) dX12_cutsBy_13) (JS.while (l := 121) (lb := 121) (pc1 := 22) (pc2 := 118) (pc3 := 121) (CJ.lt_f (tgt := 121) (pc1 := 15) (pc2 := 19) (JX.il (k := 2) rfl dX12_cutsBy_14) (JX.getI (pc1 := 16) (c := 12) (k := 51) (i := 170) (JX.al (k := 0) rfl dX12_cutsBy_15) cl12 (by decide) rfl fk12_170 dX12_cutsBy_16) dX12_cutsBy_19 rfl) (JS.forb (pc1 := 115) (JS.sc (JS.seq (pc1 := 36) (JS.is (pc1 := 35) (k := 3) (JX.isub (pc1 := 25) (pc2 := 34) (JX.iadd (pc1 := 23) (pc2 := 24) (JX.il (k := 2) rfl dX12_cutsBy_22) (JX.ic (n := 1) rfl dX12_cutsBy_23) dX12_cutsBy_24) (JX.iald (pc1 := 29) (pc2 := 33) (JX.getR (pc1 := 26) (c := 12) (k := 52) (i := 173) (JX.al (k := 0) rfl dX12_cutsBy_25) cl12 (by decide) rfl fk12_173 dX12_cutsBy_26) (JX.getI (pc1 := 30) (c := 12) (k := 53) (i := 176) (JX.al (k := 0) rfl dX12_cutsBy_29) cl12 (by decide) rfl fk12_176 dX12_cutsBy_30) dX12_cutsBy_33) dX12_cutsBy_34) rfl (show 3 < 5 by decide) dX12_cutsBy_35) (JS.seq (pc1 := 62) (JS.is2 (pc1 := 60) (JX.ite (l := 59) (pc1 := 55) (pc2 := 56) (pc3 := 60) (lend := 60) (CJ.or_f (l := 55) (pc1 := 46) (CJ.eq_t (tgt := 55) (pc1 := 37) (pc2 := 43) (JX.il (k := 2) rfl dX12_cutsBy_36) (JX.isub (pc1 := 41) (pc2 := 42) (JX.getI (pc1 := 38) (c := 12) (k := 51) (i := 170) (JX.al (k := 0) rfl dX12_cutsBy_37) cl12 (by decide) rfl fk12_170 dX12_cutsBy_38) (JX.ic (n := 1) rfl dX12_cutsBy_41) dX12_cutsBy_42) dX12_cutsBy_43 rfl) (CJ.ge_f (tgt := 59) (pc1 := 47) (pc2 := 52) (JX.il (k := 3) rfl dX12_cutsBy_46) (JX.call (pc1 := 49) decI_ok (JA.r (JX.al (k := 0) rfl dX12_cutsBy_47) (JA.i (JX.ic (n := 4) rfl dX12_cutsBy_48) JA.nil)) aX12_by (RunK.V (i := 414) (c := 12) (n := 1) cl12 rfl (CN nX12_by (by decide) (by decide)) gw1714 gw1716 gs83 dX12_cutsBy_49) (by decide)) dX12_cutsBy_52 rfl) (Or.inl rfl)) (JX.ic (n := 1) rfl dX12_cutsBy_55) dX12_cutsBy_56 rfl (JX.ic (n := 0) rfl dX12_cutsBy_59) (Or.inl rfl)) (show 4 < 5 by decide) dX12_cutsBy_60) (JS.seq (pc1 := 85) (JS.iff (l := 85) (pc1 := 76) (CJ.and_f (pc1 := 67) (CJ.not_f (CJ.ne0_t (tgt := 85) (pc1 := 64) (JX.il2 dX12_cutsBy_62) dX12_cutsBy_64 rfl)) (CJ.ge_f (tgt := 85) (pc1 := 68) (pc2 := 73) (JX.il (k := 3) rfl dX12_cutsBy_67) (JX.call (pc1 := 70) decI_ok (JA.r (JX.al (k := 0) rfl dX12_cutsBy_68) (JA.i (JX.ic (n := 2) rfl dX12_cutsBy_69) JA.nil)) aX12_by (RunK.V (i := 414) (c := 12) (n := 1) cl12 rfl (CN nX12_by (by decide) (by decide)) gw1714 gw1716 gs83 dX12_cutsBy_70) (by decide)) dX12_cutsBy_73 rfl)) (JS.is2 (pc1 := 83) (JX.call (pc1 := 80) decI_ok (JA.r (JX.al (k := 0) rfl dX12_cutsBy_76) (JA.i (JX.il (k := 2) rfl dX12_cutsBy_77) (JA.i (JX.il (k := 3) rfl dX12_cutsBy_78) (JA.i (JX.il (k := 1) rfl dX12_cutsBy_79) JA.nil)))) aX12_isBorder (RunK.V (i := 420) (c := 12) (n := 3) cl12 rfl (CN nX12_isBorder (by decide) (by decide)) gw1722 gw1724 gs85 dX12_cutsBy_80) (by decide)) (show 4 < 5 by decide) dX12_cutsBy_83) (Or.inl rfl)) (JS.seq (pc1 := 93) (JS.ifc (l := 93) (pc1 := 90) (CJ.not_f (CJ.ne0_t (tgt := 93) (pc1 := 87) (JX.il2 dX12_cutsBy_85) dX12_cutsBy_87 rfl)) dX12_cutsBy_90 rfl (Or.inl rfl)) (JS.seq (pc1 := 103) (JS.upA (pc1 := 94) (pc2 := 99) (c := 12) (k := 53) (i := 176) (JX.al (k := 0) rfl dX12_cutsBy_93) dX12_cutsBy_94 cl12 (by decide) rfl fk12_176 (Or.inl rfl) dX12_cutsBy_95 (JX.ic (n := 1) rfl dX12_cutsBy_98) dX12_cutsBy_99 dX12_cutsBy_100) (JS.ia (pc1 := 107) (pc2 := 111) (pc3 := 114) (JX.getR (pc1 := 104) (c := 12) (k := 52) (i := 173) (JX.al (k := 0) rfl dX12_cutsBy_103) cl12 (by decide) rfl fk12_173 dX12_cutsBy_104) (JX.getI (pc1 := 108) (c := 12) (k := 53) (i := 176) (JX.al (k := 0) rfl dX12_cutsBy_107) cl12 (by decide) rfl fk12_176 dX12_cutsBy_108) (JX.iadd (pc1 := 112) (pc2 := 113) (JX.il (k := 2) rfl dX12_cutsBy_111) (JX.ic (n := 1) rfl dX12_cutsBy_112) dX12_cutsBy_113) dX12_cutsBy_114))))))) (JS.inc (n := 1) rfl (show 2 < 5 by decide) dX12_cutsBy_115)) dX12_cutsBy_118 rfl (Or.inl rfl) (Or.inl rfl)))) (JS.retV dX12_cutsBy_121))))
def mX12_cutsBy : MS := runM 5 none bX12_cutsBy
theorem aX12_cutsBy : MA yX12_cutsBy cX12_cutsBy 5 none 5 mX12_cutsBy := MA.of (plainFor_of_name (by decide)) jX12_cutsBy
theorem eX12_cutsBy (a0 : Nat) (a1 : Int32) (h : AH) : mX12_cutsBy [.ref a0, .int a1] h = (bX12_cutsBy [.val (.ref a0), .val (.int a1), .unset, .unset, .unset] h).bind (finM none) := rfl
/-! PieceStoreModel.lengthAt -/
theorem dX12_lengthAt_0 : decode cX12_lengthAt 0 = .ok (.iload_n 1, 1) := by decide +kernel
theorem dX12_lengthAt_1 : decode cX12_lengthAt 1 = .ok (.aload_n 0, 1) := by decide +kernel
theorem dX12_lengthAt_2 : decode cX12_lengthAt 2 = .ok (.getfield 176, 3) := by decide +kernel
theorem dX12_lengthAt_5 : decode cX12_lengthAt 5 = .ok (.if_icmp .ge 21, 3) := by decide +kernel
theorem dX12_lengthAt_8 : decode cX12_lengthAt 8 = .ok (.aload_n 0, 1) := by decide +kernel
theorem dX12_lengthAt_9 : decode cX12_lengthAt 9 = .ok (.getfield 173, 3) := by decide +kernel
theorem dX12_lengthAt_12 : decode cX12_lengthAt 12 = .ok (.iload_n 1, 1) := by decide +kernel
theorem dX12_lengthAt_13 : decode cX12_lengthAt 13 = .ok (.iconst 1, 1) := by decide +kernel
theorem dX12_lengthAt_14 : decode cX12_lengthAt 14 = .ok (.iadd, 1) := by decide +kernel
theorem dX12_lengthAt_15 : decode cX12_lengthAt 15 = .ok (.iaload, 1) := by decide +kernel
theorem dX12_lengthAt_16 : decode cX12_lengthAt 16 = .ok (.aload_n 0, 1) := by decide +kernel
theorem dX12_lengthAt_17 : decode cX12_lengthAt 17 = .ok (.getfield 173, 3) := by decide +kernel
theorem dX12_lengthAt_20 : decode cX12_lengthAt 20 = .ok (.iload_n 1, 1) := by decide +kernel
theorem dX12_lengthAt_21 : decode cX12_lengthAt 21 = .ok (.iaload, 1) := by decide +kernel
theorem dX12_lengthAt_22 : decode cX12_lengthAt 22 = .ok (.isub, 1) := by decide +kernel
theorem dX12_lengthAt_23 : decode cX12_lengthAt 23 = .ok (.goto 4, 3) := by decide +kernel
theorem dX12_lengthAt_26 : decode cX12_lengthAt 26 = .ok (.iconst 0, 1) := by decide +kernel
theorem dX12_lengthAt_27 : decode cX12_lengthAt 27 = .ok (.ireturn, 1) := by decide +kernel
abbrev MX12_lengthAt : MI := (RX12, cX12_lengthAt, 2, 1, false)
def bX12_lengthAt : St := (retI (iteX (ltI (lvI 1) (getI 12 53 (lvR 0))) (subI (aldI 2 (getR 12 52 (lvR 0)) (addI (lvI 1) (ciI (iI 1)))) (aldI 2 (getR 12 52 (lvR 0)) (lvI 1))) (ciI (iI 0))))
theorem jX12_lengthAt : JS MX12_lengthAt 0 0 0 28 [] bX12_lengthAt :=
  (JS.retI (pc1 := 27) (JX.ite (l := 26) (pc1 := 8) (pc2 := 23) (pc3 := 27) (lend := 27) (CJ.lt_f (tgt := 26) (pc1 := 1) (pc2 := 5) (JX.il (k := 1) rfl dX12_lengthAt_0) (JX.getI (pc1 := 2) (c := 12) (k := 53) (i := 176) (JX.al (k := 0) rfl dX12_lengthAt_1) cl12 (by decide) rfl fk12_176 dX12_lengthAt_2) dX12_lengthAt_5 rfl) (JX.isub (pc1 := 16) (pc2 := 22) (JX.iald (pc1 := 12) (pc2 := 15) (JX.getR (pc1 := 9) (c := 12) (k := 52) (i := 173) (JX.al (k := 0) rfl dX12_lengthAt_8) cl12 (by decide) rfl fk12_173 dX12_lengthAt_9) (JX.iadd (pc1 := 13) (pc2 := 14) (JX.il (k := 1) rfl dX12_lengthAt_12) (JX.ic (n := 1) rfl dX12_lengthAt_13) dX12_lengthAt_14) dX12_lengthAt_15) (JX.iald (pc1 := 20) (pc2 := 21) (JX.getR (pc1 := 17) (c := 12) (k := 52) (i := 173) (JX.al (k := 0) rfl dX12_lengthAt_16) cl12 (by decide) rfl fk12_173 dX12_lengthAt_17) (JX.il (k := 1) rfl dX12_lengthAt_20) dX12_lengthAt_21) dX12_lengthAt_22) dX12_lengthAt_23 rfl (JX.ic (n := 0) rfl dX12_lengthAt_26) (Or.inl rfl)) dX12_lengthAt_27)
def mX12_lengthAt : MS := runM 2 (some (.int)) bX12_lengthAt
theorem aX12_lengthAt : MA yX12_lengthAt cX12_lengthAt 2 (some (.int)) 1 mX12_lengthAt := MA.of (plainFor_of_name (by decide)) jX12_lengthAt
theorem eX12_lengthAt (a0 : Nat) (a1 : Int32) (h : AH) : mX12_lengthAt [.ref a0, .int a1] h = (bX12_lengthAt [.val (.ref a0), .val (.int a1)] h).bind (finM (some (.int))) := rfl
/-! PieceStoreModel.printAt -/
theorem dX12_printAt_0 : decode cX12_printAt 0 = .ok (.ldc2_w 423, 3) := by decide +kernel
theorem dX12_printAt_3 : decode cX12_printAt 3 = .ok (.lstore_n 2, 1) := by decide +kernel
theorem dX12_printAt_4 : decode cX12_printAt 4 = .ok (.aload_n 0, 1) := by decide +kernel
theorem dX12_printAt_5 : decode cX12_printAt 5 = .ok (.getfield 173, 3) := by decide +kernel
theorem dX12_printAt_8 : decode cX12_printAt 8 = .ok (.iload_n 1, 1) := by decide +kernel
theorem dX12_printAt_9 : decode cX12_printAt 9 = .ok (.iaload, 1) := by decide +kernel
theorem dX12_printAt_10 : decode cX12_printAt 10 = .ok (.istore 4, 2) := by decide +kernel
theorem dX12_printAt_12 : decode cX12_printAt 12 = .ok (.iload 4, 2) := by decide +kernel
theorem dX12_printAt_14 : decode cX12_printAt 14 = .ok (.aload_n 0, 1) := by decide +kernel
theorem dX12_printAt_15 : decode cX12_printAt 15 = .ok (.getfield 173, 3) := by decide +kernel
theorem dX12_printAt_18 : decode cX12_printAt 18 = .ok (.iload_n 1, 1) := by decide +kernel
theorem dX12_printAt_19 : decode cX12_printAt 19 = .ok (.iconst 1, 1) := by decide +kernel
theorem dX12_printAt_20 : decode cX12_printAt 20 = .ok (.iadd, 1) := by decide +kernel
theorem dX12_printAt_21 : decode cX12_printAt 21 = .ok (.iaload, 1) := by decide +kernel
theorem dX12_printAt_22 : decode cX12_printAt 22 = .ok (.if_icmp .ge 30, 3) := by decide +kernel
theorem dX12_printAt_25 : decode cX12_printAt 25 = .ok (.ldc2_w 425, 3) := by decide +kernel
theorem dX12_printAt_28 : decode cX12_printAt 28 = .ok (.lload_n 2, 1) := by decide +kernel
theorem dX12_printAt_29 : decode cX12_printAt 29 = .ok (.lmul, 1) := by decide +kernel
theorem dX12_printAt_30 : decode cX12_printAt 30 = .ok (.aload_n 0, 1) := by decide +kernel
theorem dX12_printAt_31 : decode cX12_printAt 31 = .ok (.getfield 167, 3) := by decide +kernel
theorem dX12_printAt_34 : decode cX12_printAt 34 = .ok (.iload 4, 2) := by decide +kernel
theorem dX12_printAt_36 : decode cX12_printAt 36 = .ok (.iaload, 1) := by decide +kernel
theorem dX12_printAt_37 : decode cX12_printAt 37 = .ok (.i2l, 1) := by decide +kernel
theorem dX12_printAt_38 : decode cX12_printAt 38 = .ok (.ladd, 1) := by decide +kernel
theorem dX12_printAt_39 : decode cX12_printAt 39 = .ok (.lconst 1, 1) := by decide +kernel
theorem dX12_printAt_40 : decode cX12_printAt 40 = .ok (.ladd, 1) := by decide +kernel
theorem dX12_printAt_41 : decode cX12_printAt 41 = .ok (.ldc2_w 427, 3) := by decide +kernel
theorem dX12_printAt_44 : decode cX12_printAt 44 = .ok (.lrem, 1) := by decide +kernel
theorem dX12_printAt_45 : decode cX12_printAt 45 = .ok (.lstore_n 2, 1) := by decide +kernel
theorem dX12_printAt_46 : decode cX12_printAt 46 = .ok (.iinc 4 1, 3) := by decide +kernel
theorem dX12_printAt_49 : decode cX12_printAt 49 = .ok (.goto (-37), 3) := by decide +kernel
theorem dX12_printAt_52 : decode cX12_printAt 52 = .ok (.lload_n 2, 1) := by decide +kernel
theorem dX12_printAt_53 : decode cX12_printAt 53 = .ok (.l2i, 1) := by decide +kernel
theorem dX12_printAt_54 : decode cX12_printAt 54 = .ok (.ireturn, 1) := by decide +kernel
abbrev MX12_printAt : MI := (RX12, cX12_printAt, 5, 1, false)
def lcX12_printAt_1 : Ex Bool := (ltI (lvI 4) (aldI 2 (getR 12 52 (lvR 0)) (addI (lvI 1) (ciI (iI 1)))))
def lbX12_printAt_1 : St := (forB (lsL 2 (remL (addL (addL (mulL (clL (lI 257)) (lvL 2)) (i2L (aldI 2 (getR 12 50 (lvR 0)) (lvI 4)))) (clL (lI 1))) (clL (lI 65521)))) (incI 4 (iI 1)))
def bX12_printAt : St := (seqS (lsL 2 (clL (lI 7))) (seqS (scS 4 (seqS (lsI 4 (aldI 2 (getR 12 52 (lvR 0)) (lvI 1))) (whileS lcX12_printAt_1 lbX12_printAt_1))) (retI (l2I (lvL 2)))))
theorem jX12_printAt : JS MX12_printAt 0 0 0 55 [] bX12_printAt :=
  (JS.seq (pc1 := 4) (JS.ls (pc1 := 3) (k := 2) (JX.ld2K (i := 423) (by decide) gw1777 dX12_printAt_0) rfl (show 2 + 1 < 5 by decide) dX12_printAt_3) (JS.seq (pc1 := 52) (JS.sc (JS.seq (pc1 := 12) (JS.is2 (pc1 := 10) (JX.iald (pc1 := 8) (pc2 := 9) (JX.getR (pc1 := 5) (c := 12) (k := 52) (i := 173) (JX.al (k := 0) rfl dX12_printAt_4) cl12 (by decide) rfl fk12_173 dX12_printAt_5) (JX.il (k := 1) rfl dX12_printAt_8) dX12_printAt_9) (show 4 < 5 by decide) dX12_printAt_10) (JS.while (l := 52) (lb := 52) (pc1 := 25) (pc2 := 49) (pc3 := 52) (CJ.lt_f (tgt := 52) (pc1 := 14) (pc2 := 22) (JX.il2 dX12_printAt_12) (JX.iald (pc1 := 18) (pc2 := 21) (JX.getR (pc1 := 15) (c := 12) (k := 52) (i := 173) (JX.al (k := 0) rfl dX12_printAt_14) cl12 (by decide) rfl fk12_173 dX12_printAt_15) (JX.iadd (pc1 := 19) (pc2 := 20) (JX.il (k := 1) rfl dX12_printAt_18) (JX.ic (n := 1) rfl dX12_printAt_19) dX12_printAt_20) dX12_printAt_21) dX12_printAt_22 rfl) (JS.forb (pc1 := 46) (JS.ls (pc1 := 45) (k := 2) (JX.lrem (pc1 := 41) (pc2 := 44) (JX.ladd (pc1 := 39) (pc2 := 40) (JX.ladd (pc1 := 30) (pc2 := 38) (JX.lmul (pc1 := 28) (pc2 := 29) (JX.ld2K (i := 425) (by decide) gw1778 dX12_printAt_25) (JX.ll (k := 2) rfl dX12_printAt_28) dX12_printAt_29) (JX.i2l (pc1 := 37) (JX.iald (pc1 := 34) (pc2 := 36) (JX.getR (pc1 := 31) (c := 12) (k := 50) (i := 167) (JX.al (k := 0) rfl dX12_printAt_30) cl12 (by decide) rfl fk12_167 dX12_printAt_31) (JX.il2 dX12_printAt_34) dX12_printAt_36) dX12_printAt_37) dX12_printAt_38) (JX.lc (n := 1) (v := lI 1) rfl dX12_printAt_39) dX12_printAt_40) (JX.ld2K (i := 427) (by decide) gw1779 dX12_printAt_41) dX12_printAt_44) rfl (show 2 + 1 < 5 by decide) dX12_printAt_45) (JS.inc (n := 1) rfl (show 4 < 5 by decide) dX12_printAt_46)) dX12_printAt_49 rfl (Or.inl rfl) (Or.inl rfl)))) (JS.retI (pc1 := 54) (JX.l2i (pc1 := 53) (JX.ll (k := 2) rfl dX12_printAt_52) dX12_printAt_53) dX12_printAt_54)))
def mX12_printAt : MS := runM 5 (some (.int)) bX12_printAt
theorem aX12_printAt : MA yX12_printAt cX12_printAt 5 (some (.int)) 1 mX12_printAt := MA.of (plainFor_of_name (by decide)) jX12_printAt
theorem eX12_printAt (a0 : Nat) (a1 : Int32) (h : AH) : mX12_printAt [.ref a0, .int a1] h = (bX12_printAt [.val (.ref a0), .val (.int a1), .unset, .unset, .unset] h).bind (finM (some (.int))) := rfl
/-! PieceStoreModel.printOf -/
theorem dX12_printOf_0 : decode cX12_printOf 0 = .ok (.ldc2_w 423, 3) := by decide +kernel
theorem dX12_printOf_3 : decode cX12_printOf 3 = .ok (.lstore_n 2, 1) := by decide +kernel
theorem dX12_printOf_4 : decode cX12_printOf 4 = .ok (.iconst 0, 1) := by decide +kernel
theorem dX12_printOf_5 : decode cX12_printOf 5 = .ok (.istore 4, 2) := by decide +kernel
theorem dX12_printOf_7 : decode cX12_printOf 7 = .ok (.iload 4, 2) := by decide +kernel
theorem dX12_printOf_9 : decode cX12_printOf 9 = .ok (.aload_n 0, 1) := by decide +kernel
theorem dX12_printOf_10 : decode cX12_printOf 10 = .ok (.getfield 145, 3) := by decide +kernel
theorem dX12_printOf_13 : decode cX12_printOf 13 = .ok (.iload_n 1, 1) := by decide +kernel
theorem dX12_printOf_14 : decode cX12_printOf 14 = .ok (.iaload, 1) := by decide +kernel
theorem dX12_printOf_15 : decode cX12_printOf 15 = .ok (.if_icmp .ge 37, 3) := by decide +kernel
theorem dX12_printOf_18 : decode cX12_printOf 18 = .ok (.ldc2_w 425, 3) := by decide +kernel
theorem dX12_printOf_21 : decode cX12_printOf 21 = .ok (.lload_n 2, 1) := by decide +kernel
theorem dX12_printOf_22 : decode cX12_printOf 22 = .ok (.lmul, 1) := by decide +kernel
theorem dX12_printOf_23 : decode cX12_printOf 23 = .ok (.aload_n 0, 1) := by decide +kernel
theorem dX12_printOf_24 : decode cX12_printOf 24 = .ok (.getfield 148, 3) := by decide +kernel
theorem dX12_printOf_27 : decode cX12_printOf 27 = .ok (.aload_n 0, 1) := by decide +kernel
theorem dX12_printOf_28 : decode cX12_printOf 28 = .ok (.getfield 142, 3) := by decide +kernel
theorem dX12_printOf_31 : decode cX12_printOf 31 = .ok (.iload_n 1, 1) := by decide +kernel
theorem dX12_printOf_32 : decode cX12_printOf 32 = .ok (.iaload, 1) := by decide +kernel
theorem dX12_printOf_33 : decode cX12_printOf 33 = .ok (.iload 4, 2) := by decide +kernel
theorem dX12_printOf_35 : decode cX12_printOf 35 = .ok (.iadd, 1) := by decide +kernel
theorem dX12_printOf_36 : decode cX12_printOf 36 = .ok (.iaload, 1) := by decide +kernel
theorem dX12_printOf_37 : decode cX12_printOf 37 = .ok (.i2l, 1) := by decide +kernel
theorem dX12_printOf_38 : decode cX12_printOf 38 = .ok (.ladd, 1) := by decide +kernel
theorem dX12_printOf_39 : decode cX12_printOf 39 = .ok (.lconst 1, 1) := by decide +kernel
theorem dX12_printOf_40 : decode cX12_printOf 40 = .ok (.ladd, 1) := by decide +kernel
theorem dX12_printOf_41 : decode cX12_printOf 41 = .ok (.ldc2_w 427, 3) := by decide +kernel
theorem dX12_printOf_44 : decode cX12_printOf 44 = .ok (.lrem, 1) := by decide +kernel
theorem dX12_printOf_45 : decode cX12_printOf 45 = .ok (.lstore_n 2, 1) := by decide +kernel
theorem dX12_printOf_46 : decode cX12_printOf 46 = .ok (.iinc 4 1, 3) := by decide +kernel
theorem dX12_printOf_49 : decode cX12_printOf 49 = .ok (.goto (-42), 3) := by decide +kernel
theorem dX12_printOf_52 : decode cX12_printOf 52 = .ok (.lload_n 2, 1) := by decide +kernel
theorem dX12_printOf_53 : decode cX12_printOf 53 = .ok (.l2i, 1) := by decide +kernel
theorem dX12_printOf_54 : decode cX12_printOf 54 = .ok (.ireturn, 1) := by decide +kernel
abbrev MX12_printOf : MI := (RX12, cX12_printOf, 5, 1, false)
def lcX12_printOf_1 : Ex Bool := (ltI (lvI 4) (aldI 2 (getR 12 43 (lvR 0)) (lvI 1)))
def lbX12_printOf_1 : St := (forB (lsL 2 (remL (addL (addL (mulL (clL (lI 257)) (lvL 2)) (i2L (aldI 2 (getR 12 44 (lvR 0)) (addI (aldI 2 (getR 12 42 (lvR 0)) (lvI 1)) (lvI 4))))) (clL (lI 1))) (clL (lI 65521)))) (incI 4 (iI 1)))
def bX12_printOf : St := (seqS (lsL 2 (clL (lI 7))) (seqS (scS 4 (seqS (lsI 4 (ciI (iI 0))) (whileS lcX12_printOf_1 lbX12_printOf_1))) (retI (l2I (lvL 2)))))
theorem jX12_printOf : JS MX12_printOf 0 0 0 55 [] bX12_printOf :=
  (JS.seq (pc1 := 4) (JS.ls (pc1 := 3) (k := 2) (JX.ld2K (i := 423) (by decide) gw1777 dX12_printOf_0) rfl (show 2 + 1 < 5 by decide) dX12_printOf_3) (JS.seq (pc1 := 52) (JS.sc (JS.seq (pc1 := 7) (JS.is2 (pc1 := 5) (JX.ic (n := 0) rfl dX12_printOf_4) (show 4 < 5 by decide) dX12_printOf_5) (JS.while (l := 52) (lb := 52) (pc1 := 18) (pc2 := 49) (pc3 := 52) (CJ.lt_f (tgt := 52) (pc1 := 9) (pc2 := 15) (JX.il2 dX12_printOf_7) (JX.iald (pc1 := 13) (pc2 := 14) (JX.getR (pc1 := 10) (c := 12) (k := 43) (i := 145) (JX.al (k := 0) rfl dX12_printOf_9) cl12 (by decide) rfl fk12_145 dX12_printOf_10) (JX.il (k := 1) rfl dX12_printOf_13) dX12_printOf_14) dX12_printOf_15 rfl) (JS.forb (pc1 := 46) (JS.ls (pc1 := 45) (k := 2) (JX.lrem (pc1 := 41) (pc2 := 44) (JX.ladd (pc1 := 39) (pc2 := 40) (JX.ladd (pc1 := 23) (pc2 := 38) (JX.lmul (pc1 := 21) (pc2 := 22) (JX.ld2K (i := 425) (by decide) gw1778 dX12_printOf_18) (JX.ll (k := 2) rfl dX12_printOf_21) dX12_printOf_22) (JX.i2l (pc1 := 37) (JX.iald (pc1 := 27) (pc2 := 36) (JX.getR (pc1 := 24) (c := 12) (k := 44) (i := 148) (JX.al (k := 0) rfl dX12_printOf_23) cl12 (by decide) rfl fk12_148 dX12_printOf_24) (JX.iadd (pc1 := 33) (pc2 := 35) (JX.iald (pc1 := 31) (pc2 := 32) (JX.getR (pc1 := 28) (c := 12) (k := 42) (i := 142) (JX.al (k := 0) rfl dX12_printOf_27) cl12 (by decide) rfl fk12_142 dX12_printOf_28) (JX.il (k := 1) rfl dX12_printOf_31) dX12_printOf_32) (JX.il2 dX12_printOf_33) dX12_printOf_35) dX12_printOf_36) dX12_printOf_37) dX12_printOf_38) (JX.lc (n := 1) (v := lI 1) rfl dX12_printOf_39) dX12_printOf_40) (JX.ld2K (i := 427) (by decide) gw1779 dX12_printOf_41) dX12_printOf_44) rfl (show 2 + 1 < 5 by decide) dX12_printOf_45) (JS.inc (n := 1) rfl (show 4 < 5 by decide) dX12_printOf_46)) dX12_printOf_49 rfl (Or.inl rfl) (Or.inl rfl)))) (JS.retI (pc1 := 54) (JX.l2i (pc1 := 53) (JX.ll (k := 2) rfl dX12_printOf_52) dX12_printOf_53) dX12_printOf_54)))
def mX12_printOf : MS := runM 5 (some (.int)) bX12_printOf
theorem aX12_printOf : MA yX12_printOf cX12_printOf 5 (some (.int)) 1 mX12_printOf := MA.of (plainFor_of_name (by decide)) jX12_printOf
theorem eX12_printOf (a0 : Nat) (a1 : Int32) (h : AH) : mX12_printOf [.ref a0, .int a1] h = (bX12_printOf [.val (.ref a0), .val (.int a1), .unset, .unset, .unset] h).bind (finM (some (.int))) := rfl
/-! PieceStoreModel.isLike -/
theorem dX12_isLike_0 : decode cX12_isLike 0 = .ok (.aload_n 0, 1) := by decide +kernel
theorem dX12_isLike_1 : decode cX12_isLike 1 = .ok (.getfield 145, 3) := by decide +kernel
theorem dX12_isLike_4 : decode cX12_isLike 4 = .ok (.iload_n 1, 1) := by decide +kernel
theorem dX12_isLike_5 : decode cX12_isLike 5 = .ok (.iaload, 1) := by decide +kernel
theorem dX12_isLike_6 : decode cX12_isLike 6 = .ok (.aload_n 0, 1) := by decide +kernel
theorem dX12_isLike_7 : decode cX12_isLike 7 = .ok (.iload_n 2, 1) := by decide +kernel
theorem dX12_isLike_8 : decode cX12_isLike 8 = .ok (.invokevirtual 429, 3) := by decide +kernel
theorem dX12_isLike_11 : decode cX12_isLike 11 = .ok (.if_icmp .eq 5, 3) := by decide +kernel
theorem dX12_isLike_14 : decode cX12_isLike 14 = .ok (.iconst 0, 1) := by decide +kernel
theorem dX12_isLike_15 : decode cX12_isLike 15 = .ok (.ireturn, 1) := by decide +kernel
theorem dX12_isLike_16 : decode cX12_isLike 16 = .ok (.iconst 0, 1) := by decide +kernel
theorem dX12_isLike_17 : decode cX12_isLike 17 = .ok (.istore_n 3, 1) := by decide +kernel
theorem dX12_isLike_18 : decode cX12_isLike 18 = .ok (.iload_n 3, 1) := by decide +kernel
theorem dX12_isLike_19 : decode cX12_isLike 19 = .ok (.aload_n 0, 1) := by decide +kernel
theorem dX12_isLike_20 : decode cX12_isLike 20 = .ok (.getfield 145, 3) := by decide +kernel
theorem dX12_isLike_23 : decode cX12_isLike 23 = .ok (.iload_n 1, 1) := by decide +kernel
theorem dX12_isLike_24 : decode cX12_isLike 24 = .ok (.iaload, 1) := by decide +kernel
theorem dX12_isLike_25 : decode cX12_isLike 25 = .ok (.if_icmp .ge 40, 3) := by decide +kernel
theorem dX12_isLike_28 : decode cX12_isLike 28 = .ok (.aload_n 0, 1) := by decide +kernel
theorem dX12_isLike_29 : decode cX12_isLike 29 = .ok (.getfield 148, 3) := by decide +kernel
theorem dX12_isLike_32 : decode cX12_isLike 32 = .ok (.aload_n 0, 1) := by decide +kernel
theorem dX12_isLike_33 : decode cX12_isLike 33 = .ok (.getfield 142, 3) := by decide +kernel
theorem dX12_isLike_36 : decode cX12_isLike 36 = .ok (.iload_n 1, 1) := by decide +kernel
theorem dX12_isLike_37 : decode cX12_isLike 37 = .ok (.iaload, 1) := by decide +kernel
theorem dX12_isLike_38 : decode cX12_isLike 38 = .ok (.iload_n 3, 1) := by decide +kernel
theorem dX12_isLike_39 : decode cX12_isLike 39 = .ok (.iadd, 1) := by decide +kernel
theorem dX12_isLike_40 : decode cX12_isLike 40 = .ok (.iaload, 1) := by decide +kernel
theorem dX12_isLike_41 : decode cX12_isLike 41 = .ok (.aload_n 0, 1) := by decide +kernel
theorem dX12_isLike_42 : decode cX12_isLike 42 = .ok (.getfield 167, 3) := by decide +kernel
theorem dX12_isLike_45 : decode cX12_isLike 45 = .ok (.aload_n 0, 1) := by decide +kernel
theorem dX12_isLike_46 : decode cX12_isLike 46 = .ok (.getfield 173, 3) := by decide +kernel
theorem dX12_isLike_49 : decode cX12_isLike 49 = .ok (.iload_n 2, 1) := by decide +kernel
theorem dX12_isLike_50 : decode cX12_isLike 50 = .ok (.iaload, 1) := by decide +kernel
theorem dX12_isLike_51 : decode cX12_isLike 51 = .ok (.iload_n 3, 1) := by decide +kernel
theorem dX12_isLike_52 : decode cX12_isLike 52 = .ok (.iadd, 1) := by decide +kernel
theorem dX12_isLike_53 : decode cX12_isLike 53 = .ok (.iaload, 1) := by decide +kernel
theorem dX12_isLike_54 : decode cX12_isLike 54 = .ok (.if_icmp .eq 5, 3) := by decide +kernel
theorem dX12_isLike_57 : decode cX12_isLike 57 = .ok (.iconst 0, 1) := by decide +kernel
theorem dX12_isLike_58 : decode cX12_isLike 58 = .ok (.ireturn, 1) := by decide +kernel
theorem dX12_isLike_59 : decode cX12_isLike 59 = .ok (.iinc 3 1, 3) := by decide +kernel
theorem dX12_isLike_62 : decode cX12_isLike 62 = .ok (.goto (-44), 3) := by decide +kernel
theorem dX12_isLike_65 : decode cX12_isLike 65 = .ok (.iconst 1, 1) := by decide +kernel
theorem dX12_isLike_66 : decode cX12_isLike 66 = .ok (.ireturn, 1) := by decide +kernel
abbrev MX12_isLike : MI := (RX12, cX12_isLike, 4, 2, false)
def lcX12_isLike_1 : Ex Bool := (ltI (lvI 3) (aldI 2 (getR 12 43 (lvR 0)) (lvI 1)))
def lbX12_isLike_1 : St := (forB (ifS (neI (aldI 2 (getR 12 44 (lvR 0)) (addI (aldI 2 (getR 12 42 (lvR 0)) (lvI 1)) (lvI 3))) (aldI 2 (getR 12 50 (lvR 0)) (addI (aldI 2 (getR 12 52 (lvR 0)) (lvI 2)) (lvI 3)))) (retI (ciI (iI 0)))) (incI 3 (iI 1)))
def bX12_isLike : St := (seqS (ifS (neI (aldI 2 (getR 12 43 (lvR 0)) (lvI 1)) (calX decI (ckV 12 1) mX12_lengthAt (agC va_rf (lvR 0) (agC Value.int (lvI 2) agN)))) (retI (ciI (iI 0)))) (seqS (scS 3 (seqS (lsI 3 (ciI (iI 0))) (whileS lcX12_isLike_1 lbX12_isLike_1))) (retI (ciI (iI 1)))))
theorem jX12_isLike : JS MX12_isLike 0 0 0 67 [] bX12_isLike :=
  (JS.seq (pc1 := 16) (JS.iff (l := 16) (pc1 := 14) (CJ.ne_f (tgt := 16) (pc1 := 6) (pc2 := 11) (JX.iald (pc1 := 4) (pc2 := 5) (JX.getR (pc1 := 1) (c := 12) (k := 43) (i := 145) (JX.al (k := 0) rfl dX12_isLike_0) cl12 (by decide) rfl fk12_145 dX12_isLike_1) (JX.il (k := 1) rfl dX12_isLike_4) dX12_isLike_5) (JX.call (pc1 := 8) decI_ok (JA.r (JX.al (k := 0) rfl dX12_isLike_6) (JA.i (JX.il (k := 2) rfl dX12_isLike_7) JA.nil)) aX12_lengthAt (RunK.V (i := 429) (c := 12) (n := 1) cl12 rfl (CN nX12_lengthAt (by decide) (by decide)) gw1780 gw1782 gs96 dX12_isLike_8) (by decide)) dX12_isLike_11 rfl) (JS.retI (pc1 := 15) (JX.ic (n := 0) rfl dX12_isLike_14) dX12_isLike_15) (Or.inl rfl)) (JS.seq (pc1 := 65) (JS.sc (JS.seq (pc1 := 18) (JS.is (pc1 := 17) (k := 3) (JX.ic (n := 0) rfl dX12_isLike_16) rfl (show 3 < 4 by decide) dX12_isLike_17) (JS.while (l := 65) (lb := 65) (pc1 := 28) (pc2 := 62) (pc3 := 65) (CJ.lt_f (tgt := 65) (pc1 := 19) (pc2 := 25) (JX.il (k := 3) rfl dX12_isLike_18) (JX.iald (pc1 := 23) (pc2 := 24) (JX.getR (pc1 := 20) (c := 12) (k := 43) (i := 145) (JX.al (k := 0) rfl dX12_isLike_19) cl12 (by decide) rfl fk12_145 dX12_isLike_20) (JX.il (k := 1) rfl dX12_isLike_23) dX12_isLike_24) dX12_isLike_25 rfl) (JS.forb (pc1 := 59) (JS.iff (l := 59) (pc1 := 57) (CJ.ne_f (tgt := 59) (pc1 := 41) (pc2 := 54) (JX.iald (pc1 := 32) (pc2 := 40) (JX.getR (pc1 := 29) (c := 12) (k := 44) (i := 148) (JX.al (k := 0) rfl dX12_isLike_28) cl12 (by decide) rfl fk12_148 dX12_isLike_29) (JX.iadd (pc1 := 38) (pc2 := 39) (JX.iald (pc1 := 36) (pc2 := 37) (JX.getR (pc1 := 33) (c := 12) (k := 42) (i := 142) (JX.al (k := 0) rfl dX12_isLike_32) cl12 (by decide) rfl fk12_142 dX12_isLike_33) (JX.il (k := 1) rfl dX12_isLike_36) dX12_isLike_37) (JX.il (k := 3) rfl dX12_isLike_38) dX12_isLike_39) dX12_isLike_40) (JX.iald (pc1 := 45) (pc2 := 53) (JX.getR (pc1 := 42) (c := 12) (k := 50) (i := 167) (JX.al (k := 0) rfl dX12_isLike_41) cl12 (by decide) rfl fk12_167 dX12_isLike_42) (JX.iadd (pc1 := 51) (pc2 := 52) (JX.iald (pc1 := 49) (pc2 := 50) (JX.getR (pc1 := 46) (c := 12) (k := 52) (i := 173) (JX.al (k := 0) rfl dX12_isLike_45) cl12 (by decide) rfl fk12_173 dX12_isLike_46) (JX.il (k := 2) rfl dX12_isLike_49) dX12_isLike_50) (JX.il (k := 3) rfl dX12_isLike_51) dX12_isLike_52) dX12_isLike_53) dX12_isLike_54 rfl) (JS.retI (pc1 := 58) (JX.ic (n := 0) rfl dX12_isLike_57) dX12_isLike_58) (Or.inl rfl)) (JS.inc (n := 1) rfl (show 3 < 4 by decide) dX12_isLike_59)) dX12_isLike_62 rfl (Or.inl rfl) (Or.inl rfl)))) (JS.retI (pc1 := 66) (JX.ic (n := 1) rfl dX12_isLike_65) dX12_isLike_66)))
def mX12_isLike : MS := runM 4 (some (.boolean)) bX12_isLike
theorem aX12_isLike : MA yX12_isLike cX12_isLike 4 (some (.boolean)) 2 mX12_isLike := MA.of (plainFor_of_name (by decide)) jX12_isLike
theorem eX12_isLike (a0 : Nat) (a1 : Int32) (a2 : Int32) (h : AH) : mX12_isLike [.ref a0, .int a1, .int a2] h = (bX12_isLike [.val (.ref a0), .val (.int a1), .val (.int a2), .unset] h).bind (finM (some (.boolean))) := rfl
/-! PieceStoreModel.areLike -/
theorem dX12_areLike_0 : decode cX12_areLike 0 = .ok (.aload_n 0, 1) := by decide +kernel
theorem dX12_areLike_1 : decode cX12_areLike 1 = .ok (.iload_n 1, 1) := by decide +kernel
theorem dX12_areLike_2 : decode cX12_areLike 2 = .ok (.invokevirtual 429, 3) := by decide +kernel
theorem dX12_areLike_5 : decode cX12_areLike 5 = .ok (.aload_n 0, 1) := by decide +kernel
theorem dX12_areLike_6 : decode cX12_areLike 6 = .ok (.iload_n 2, 1) := by decide +kernel
theorem dX12_areLike_7 : decode cX12_areLike 7 = .ok (.invokevirtual 429, 3) := by decide +kernel
theorem dX12_areLike_10 : decode cX12_areLike 10 = .ok (.if_icmp .eq 5, 3) := by decide +kernel
theorem dX12_areLike_13 : decode cX12_areLike 13 = .ok (.iconst 0, 1) := by decide +kernel
theorem dX12_areLike_14 : decode cX12_areLike 14 = .ok (.ireturn, 1) := by decide +kernel
theorem dX12_areLike_15 : decode cX12_areLike 15 = .ok (.iconst 0, 1) := by decide +kernel
theorem dX12_areLike_16 : decode cX12_areLike 16 = .ok (.istore_n 3, 1) := by decide +kernel
theorem dX12_areLike_17 : decode cX12_areLike 17 = .ok (.iload_n 3, 1) := by decide +kernel
theorem dX12_areLike_18 : decode cX12_areLike 18 = .ok (.aload_n 0, 1) := by decide +kernel
theorem dX12_areLike_19 : decode cX12_areLike 19 = .ok (.iload_n 1, 1) := by decide +kernel
theorem dX12_areLike_20 : decode cX12_areLike 20 = .ok (.invokevirtual 429, 3) := by decide +kernel
theorem dX12_areLike_23 : decode cX12_areLike 23 = .ok (.if_icmp .ge 40, 3) := by decide +kernel
theorem dX12_areLike_26 : decode cX12_areLike 26 = .ok (.aload_n 0, 1) := by decide +kernel
theorem dX12_areLike_27 : decode cX12_areLike 27 = .ok (.getfield 167, 3) := by decide +kernel
theorem dX12_areLike_30 : decode cX12_areLike 30 = .ok (.aload_n 0, 1) := by decide +kernel
theorem dX12_areLike_31 : decode cX12_areLike 31 = .ok (.getfield 173, 3) := by decide +kernel
theorem dX12_areLike_34 : decode cX12_areLike 34 = .ok (.iload_n 1, 1) := by decide +kernel
theorem dX12_areLike_35 : decode cX12_areLike 35 = .ok (.iaload, 1) := by decide +kernel
theorem dX12_areLike_36 : decode cX12_areLike 36 = .ok (.iload_n 3, 1) := by decide +kernel
theorem dX12_areLike_37 : decode cX12_areLike 37 = .ok (.iadd, 1) := by decide +kernel
theorem dX12_areLike_38 : decode cX12_areLike 38 = .ok (.iaload, 1) := by decide +kernel
theorem dX12_areLike_39 : decode cX12_areLike 39 = .ok (.aload_n 0, 1) := by decide +kernel
theorem dX12_areLike_40 : decode cX12_areLike 40 = .ok (.getfield 167, 3) := by decide +kernel
theorem dX12_areLike_43 : decode cX12_areLike 43 = .ok (.aload_n 0, 1) := by decide +kernel
theorem dX12_areLike_44 : decode cX12_areLike 44 = .ok (.getfield 173, 3) := by decide +kernel
theorem dX12_areLike_47 : decode cX12_areLike 47 = .ok (.iload_n 2, 1) := by decide +kernel
theorem dX12_areLike_48 : decode cX12_areLike 48 = .ok (.iaload, 1) := by decide +kernel
theorem dX12_areLike_49 : decode cX12_areLike 49 = .ok (.iload_n 3, 1) := by decide +kernel
theorem dX12_areLike_50 : decode cX12_areLike 50 = .ok (.iadd, 1) := by decide +kernel
theorem dX12_areLike_51 : decode cX12_areLike 51 = .ok (.iaload, 1) := by decide +kernel
theorem dX12_areLike_52 : decode cX12_areLike 52 = .ok (.if_icmp .eq 5, 3) := by decide +kernel
theorem dX12_areLike_55 : decode cX12_areLike 55 = .ok (.iconst 0, 1) := by decide +kernel
theorem dX12_areLike_56 : decode cX12_areLike 56 = .ok (.ireturn, 1) := by decide +kernel
theorem dX12_areLike_57 : decode cX12_areLike 57 = .ok (.iinc 3 1, 3) := by decide +kernel
theorem dX12_areLike_60 : decode cX12_areLike 60 = .ok (.goto (-43), 3) := by decide +kernel
theorem dX12_areLike_63 : decode cX12_areLike 63 = .ok (.iconst 1, 1) := by decide +kernel
theorem dX12_areLike_64 : decode cX12_areLike 64 = .ok (.ireturn, 1) := by decide +kernel
abbrev MX12_areLike : MI := (RX12, cX12_areLike, 4, 2, false)
def lcX12_areLike_1 : Ex Bool := (ltI (lvI 3) (calX decI (ckV 12 1) mX12_lengthAt (agC va_rf (lvR 0) (agC Value.int (lvI 1) agN))))
def lbX12_areLike_1 : St := (forB (ifS (neI (aldI 2 (getR 12 50 (lvR 0)) (addI (aldI 2 (getR 12 52 (lvR 0)) (lvI 1)) (lvI 3))) (aldI 2 (getR 12 50 (lvR 0)) (addI (aldI 2 (getR 12 52 (lvR 0)) (lvI 2)) (lvI 3)))) (retI (ciI (iI 0)))) (incI 3 (iI 1)))
def bX12_areLike : St := (seqS (ifS (neI (calX decI (ckV 12 1) mX12_lengthAt (agC va_rf (lvR 0) (agC Value.int (lvI 1) agN))) (calX decI (ckV 12 1) mX12_lengthAt (agC va_rf (lvR 0) (agC Value.int (lvI 2) agN)))) (retI (ciI (iI 0)))) (seqS (scS 3 (seqS (lsI 3 (ciI (iI 0))) (whileS lcX12_areLike_1 lbX12_areLike_1))) (retI (ciI (iI 1)))))
theorem jX12_areLike : JS MX12_areLike 0 0 0 65 [] bX12_areLike :=
  (JS.seq (pc1 := 15) (JS.iff (l := 15) (pc1 := 13) (CJ.ne_f (tgt := 15) (pc1 := 5) (pc2 := 10) (JX.call (pc1 := 2) decI_ok (JA.r (JX.al (k := 0) rfl dX12_areLike_0) (JA.i (JX.il (k := 1) rfl dX12_areLike_1) JA.nil)) aX12_lengthAt (RunK.V (i := 429) (c := 12) (n := 1) cl12 rfl (CN nX12_lengthAt (by decide) (by decide)) gw1780 gw1782 gs96 dX12_areLike_2) (by decide)) (JX.call (pc1 := 7) decI_ok (JA.r (JX.al (k := 0) rfl dX12_areLike_5) (JA.i (JX.il (k := 2) rfl dX12_areLike_6) JA.nil)) aX12_lengthAt (RunK.V (i := 429) (c := 12) (n := 1) cl12 rfl (CN nX12_lengthAt (by decide) (by decide)) gw1780 gw1782 gs96 dX12_areLike_7) (by decide)) dX12_areLike_10 rfl) (JS.retI (pc1 := 14) (JX.ic (n := 0) rfl dX12_areLike_13) dX12_areLike_14) (Or.inl rfl)) (JS.seq (pc1 := 63) (JS.sc (JS.seq (pc1 := 17) (JS.is (pc1 := 16) (k := 3) (JX.ic (n := 0) rfl dX12_areLike_15) rfl (show 3 < 4 by decide) dX12_areLike_16) (JS.while (l := 63) (lb := 63) (pc1 := 26) (pc2 := 60) (pc3 := 63) (CJ.lt_f (tgt := 63) (pc1 := 18) (pc2 := 23) (JX.il (k := 3) rfl dX12_areLike_17) (JX.call (pc1 := 20) decI_ok (JA.r (JX.al (k := 0) rfl dX12_areLike_18) (JA.i (JX.il (k := 1) rfl dX12_areLike_19) JA.nil)) aX12_lengthAt (RunK.V (i := 429) (c := 12) (n := 1) cl12 rfl (CN nX12_lengthAt (by decide) (by decide)) gw1780 gw1782 gs96 dX12_areLike_20) (by decide)) dX12_areLike_23 rfl) (JS.forb (pc1 := 57) (JS.iff (l := 57) (pc1 := 55) (CJ.ne_f (tgt := 57) (pc1 := 39) (pc2 := 52) (JX.iald (pc1 := 30) (pc2 := 38) (JX.getR (pc1 := 27) (c := 12) (k := 50) (i := 167) (JX.al (k := 0) rfl dX12_areLike_26) cl12 (by decide) rfl fk12_167 dX12_areLike_27) (JX.iadd (pc1 := 36) (pc2 := 37) (JX.iald (pc1 := 34) (pc2 := 35) (JX.getR (pc1 := 31) (c := 12) (k := 52) (i := 173) (JX.al (k := 0) rfl dX12_areLike_30) cl12 (by decide) rfl fk12_173 dX12_areLike_31) (JX.il (k := 1) rfl dX12_areLike_34) dX12_areLike_35) (JX.il (k := 3) rfl dX12_areLike_36) dX12_areLike_37) dX12_areLike_38) (JX.iald (pc1 := 43) (pc2 := 51) (JX.getR (pc1 := 40) (c := 12) (k := 50) (i := 167) (JX.al (k := 0) rfl dX12_areLike_39) cl12 (by decide) rfl fk12_167 dX12_areLike_40) (JX.iadd (pc1 := 49) (pc2 := 50) (JX.iald (pc1 := 47) (pc2 := 48) (JX.getR (pc1 := 44) (c := 12) (k := 52) (i := 173) (JX.al (k := 0) rfl dX12_areLike_43) cl12 (by decide) rfl fk12_173 dX12_areLike_44) (JX.il (k := 2) rfl dX12_areLike_47) dX12_areLike_48) (JX.il (k := 3) rfl dX12_areLike_49) dX12_areLike_50) dX12_areLike_51) dX12_areLike_52 rfl) (JS.retI (pc1 := 56) (JX.ic (n := 0) rfl dX12_areLike_55) dX12_areLike_56) (Or.inl rfl)) (JS.inc (n := 1) rfl (show 3 < 4 by decide) dX12_areLike_57)) dX12_areLike_60 rfl (Or.inl rfl) (Or.inl rfl)))) (JS.retI (pc1 := 64) (JX.ic (n := 1) rfl dX12_areLike_63) dX12_areLike_64)))
def mX12_areLike : MS := runM 4 (some (.boolean)) bX12_areLike
theorem aX12_areLike : MA yX12_areLike cX12_areLike 4 (some (.boolean)) 2 mX12_areLike := MA.of (plainFor_of_name (by decide)) jX12_areLike
theorem eX12_areLike (a0 : Nat) (a1 : Int32) (a2 : Int32) (h : AH) : mX12_areLike [.ref a0, .int a1, .int a2] h = (bX12_areLike [.val (.ref a0), .val (.int a1), .val (.int a2), .unset] h).bind (finM (some (.boolean))) := rfl
/-! PieceStoreModel.isBackup -/
theorem dX12_isBackup_0 : decode cX12_isBackup 0 = .ok (.iload_n 1, 1) := by decide +kernel
theorem dX12_isBackup_1 : decode cX12_isBackup 1 = .ok (.iconst 0, 1) := by decide +kernel
theorem dX12_isBackup_2 : decode cX12_isBackup 2 = .ok (.bipush 11, 2) := by decide +kernel
theorem dX12_isBackup_4 : decode cX12_isBackup 4 = .ok (.invokestatic 313, 3) := by decide +kernel
theorem dX12_isBackup_7 : decode cX12_isBackup 7 = .ok (.ifCond .eq 22, 3) := by decide +kernel
theorem dX12_isBackup_10 : decode cX12_isBackup 10 = .ok (.aload_n 0, 1) := by decide +kernel
theorem dX12_isBackup_11 : decode cX12_isBackup 11 = .ok (.getfield 117, 3) := by decide +kernel
theorem dX12_isBackup_14 : decode cX12_isBackup 14 = .ok (.bipush 10, 2) := by decide +kernel
theorem dX12_isBackup_16 : decode cX12_isBackup 16 = .ok (.iconst 4, 1) := by decide +kernel
theorem dX12_isBackup_17 : decode cX12_isBackup 17 = .ok (.iload_n 1, 1) := by decide +kernel
theorem dX12_isBackup_18 : decode cX12_isBackup 18 = .ok (.imul, 1) := by decide +kernel
theorem dX12_isBackup_19 : decode cX12_isBackup 19 = .ok (.iadd, 1) := by decide +kernel
theorem dX12_isBackup_20 : decode cX12_isBackup 20 = .ok (.iaload, 1) := by decide +kernel
theorem dX12_isBackup_21 : decode cX12_isBackup 21 = .ok (.iconst 1, 1) := by decide +kernel
theorem dX12_isBackup_22 : decode cX12_isBackup 22 = .ok (.if_icmp .ne 7, 3) := by decide +kernel
theorem dX12_isBackup_25 : decode cX12_isBackup 25 = .ok (.iconst 1, 1) := by decide +kernel
theorem dX12_isBackup_26 : decode cX12_isBackup 26 = .ok (.goto 4, 3) := by decide +kernel
theorem dX12_isBackup_29 : decode cX12_isBackup 29 = .ok (.iconst 0, 1) := by decide +kernel
theorem dX12_isBackup_30 : decode cX12_isBackup 30 = .ok (.ireturn, 1) := by decide +kernel
abbrev MX12_isBackup : MI := (RX12, cX12_isBackup, 2, 2, false)
def bX12_isBackup : St := (retI (iteX (andX (ne0 (calX decI (ckS 3) mX12_is (agC Value.int (lvI 1) (agC Value.int (ciI (iI 0)) (agC Value.int (ciI (iI 11)) agN))))) (eqI (aldI 2 (getR 12 34 (lvR 0)) (addI (ciI (iI 10)) (mulI (ciI (iI 4)) (lvI 1)))) (ciI (iI 1)))) (ciI (iI 1)) (ciI (iI 0))))
theorem jX12_isBackup : JS MX12_isBackup 0 0 0 31 [] bX12_isBackup :=
  (JS.retI (pc1 := 30) (JX.ite (l := 29) (pc1 := 25) (pc2 := 26) (pc3 := 30) (lend := 30) (CJ.and_f (pc1 := 10) (CJ.ne0_f (tgt := 29) (pc1 := 7) (JX.call (pc1 := 4) decI_ok (JA.i (JX.il (k := 1) rfl dX12_isBackup_0) (JA.i (JX.ic (n := 0) rfl dX12_isBackup_1) (JA.i (JX.bp (n := 11) kb11 dX12_isBackup_2) JA.nil))) aX12_is (RunK.S (i := 313) (n := 3) (CN nX12_is (by decide) (by decide)) gw1589 gw1590 dX12_isBackup_4) (by decide)) dX12_isBackup_7 rfl) (CJ.eq_f (tgt := 29) (pc1 := 21) (pc2 := 22) (JX.iald (pc1 := 14) (pc2 := 20) (JX.getR (pc1 := 11) (c := 12) (k := 34) (i := 117) (JX.al (k := 0) rfl dX12_isBackup_10) cl12 (by decide) rfl fk12_117 dX12_isBackup_11) (JX.iadd (pc1 := 16) (pc2 := 19) (JX.bp (n := 10) kb10 dX12_isBackup_14) (JX.imul (pc1 := 17) (pc2 := 18) (JX.ic (n := 4) rfl dX12_isBackup_16) (JX.il (k := 1) rfl dX12_isBackup_17) dX12_isBackup_18) dX12_isBackup_19) dX12_isBackup_20) (JX.ic (n := 1) rfl dX12_isBackup_21) dX12_isBackup_22 rfl)) (JX.ic (n := 1) rfl dX12_isBackup_25) dX12_isBackup_26 rfl (JX.ic (n := 0) rfl dX12_isBackup_29) (Or.inl rfl)) dX12_isBackup_30)
def mX12_isBackup : MS := runM 2 (some (.boolean)) bX12_isBackup
theorem aX12_isBackup : MA yX12_isBackup cX12_isBackup 2 (some (.boolean)) 2 mX12_isBackup := MA.of (plainFor_of_name (by decide)) jX12_isBackup
theorem eX12_isBackup (a0 : Nat) (a1 : Int32) (h : AH) : mX12_isBackup [.ref a0, .int a1] h = (bX12_isBackup [.val (.ref a0), .val (.int a1)] h).bind (finM (some (.boolean))) := rfl
/-! PieceStoreModel.dayOf -/
theorem dX12_dayOf_0 : decode cX12_dayOf 0 = .ok (.aload_n 0, 1) := by decide +kernel
theorem dX12_dayOf_1 : decode cX12_dayOf 1 = .ok (.getfield 117, 3) := by decide +kernel
theorem dX12_dayOf_4 : decode cX12_dayOf 4 = .ok (.bipush 10, 2) := by decide +kernel
theorem dX12_dayOf_6 : decode cX12_dayOf 6 = .ok (.iconst 4, 1) := by decide +kernel
theorem dX12_dayOf_7 : decode cX12_dayOf 7 = .ok (.iload_n 1, 1) := by decide +kernel
theorem dX12_dayOf_8 : decode cX12_dayOf 8 = .ok (.imul, 1) := by decide +kernel
theorem dX12_dayOf_9 : decode cX12_dayOf 9 = .ok (.iadd, 1) := by decide +kernel
theorem dX12_dayOf_10 : decode cX12_dayOf 10 = .ok (.iconst 1, 1) := by decide +kernel
theorem dX12_dayOf_11 : decode cX12_dayOf 11 = .ok (.iadd, 1) := by decide +kernel
theorem dX12_dayOf_12 : decode cX12_dayOf 12 = .ok (.iaload, 1) := by decide +kernel
theorem dX12_dayOf_13 : decode cX12_dayOf 13 = .ok (.ireturn, 1) := by decide +kernel
abbrev MX12_dayOf : MI := (RX12, cX12_dayOf, 2, 1, false)
def bX12_dayOf : St := (retI (aldI 2 (getR 12 34 (lvR 0)) (addI (addI (ciI (iI 10)) (mulI (ciI (iI 4)) (lvI 1))) (ciI (iI 1)))))
theorem jX12_dayOf : JS MX12_dayOf 0 0 0 14 [] bX12_dayOf :=
  (JS.retI (pc1 := 13) (JX.iald (pc1 := 4) (pc2 := 12) (JX.getR (pc1 := 1) (c := 12) (k := 34) (i := 117) (JX.al (k := 0) rfl dX12_dayOf_0) cl12 (by decide) rfl fk12_117 dX12_dayOf_1) (JX.iadd (pc1 := 10) (pc2 := 11) (JX.iadd (pc1 := 6) (pc2 := 9) (JX.bp (n := 10) kb10 dX12_dayOf_4) (JX.imul (pc1 := 7) (pc2 := 8) (JX.ic (n := 4) rfl dX12_dayOf_6) (JX.il (k := 1) rfl dX12_dayOf_7) dX12_dayOf_8) dX12_dayOf_9) (JX.ic (n := 1) rfl dX12_dayOf_10) dX12_dayOf_11) dX12_dayOf_12) dX12_dayOf_13)
def mX12_dayOf : MS := runM 2 (some (.int)) bX12_dayOf
theorem aX12_dayOf : MA yX12_dayOf cX12_dayOf 2 (some (.int)) 1 mX12_dayOf := MA.of (plainFor_of_name (by decide)) jX12_dayOf
theorem eX12_dayOf (a0 : Nat) (a1 : Int32) (h : AH) : mX12_dayOf [.ref a0, .int a1] h = (bX12_dayOf [.val (.ref a0), .val (.int a1)] h).bind (finM (some (.int))) := rfl
/-! PieceStoreModel.manyOf -/
theorem dX12_manyOf_0 : decode cX12_manyOf 0 = .ok (.aload_n 0, 1) := by decide +kernel
theorem dX12_manyOf_1 : decode cX12_manyOf 1 = .ok (.getfield 117, 3) := by decide +kernel
theorem dX12_manyOf_4 : decode cX12_manyOf 4 = .ok (.bipush 10, 2) := by decide +kernel
theorem dX12_manyOf_6 : decode cX12_manyOf 6 = .ok (.iconst 4, 1) := by decide +kernel
theorem dX12_manyOf_7 : decode cX12_manyOf 7 = .ok (.iload_n 1, 1) := by decide +kernel
theorem dX12_manyOf_8 : decode cX12_manyOf 8 = .ok (.imul, 1) := by decide +kernel
theorem dX12_manyOf_9 : decode cX12_manyOf 9 = .ok (.iadd, 1) := by decide +kernel
theorem dX12_manyOf_10 : decode cX12_manyOf 10 = .ok (.iconst 3, 1) := by decide +kernel
theorem dX12_manyOf_11 : decode cX12_manyOf 11 = .ok (.iadd, 1) := by decide +kernel
theorem dX12_manyOf_12 : decode cX12_manyOf 12 = .ok (.iaload, 1) := by decide +kernel
theorem dX12_manyOf_13 : decode cX12_manyOf 13 = .ok (.ireturn, 1) := by decide +kernel
abbrev MX12_manyOf : MI := (RX12, cX12_manyOf, 2, 1, false)
def bX12_manyOf : St := (retI (aldI 2 (getR 12 34 (lvR 0)) (addI (addI (ciI (iI 10)) (mulI (ciI (iI 4)) (lvI 1))) (ciI (iI 3)))))
theorem jX12_manyOf : JS MX12_manyOf 0 0 0 14 [] bX12_manyOf :=
  (JS.retI (pc1 := 13) (JX.iald (pc1 := 4) (pc2 := 12) (JX.getR (pc1 := 1) (c := 12) (k := 34) (i := 117) (JX.al (k := 0) rfl dX12_manyOf_0) cl12 (by decide) rfl fk12_117 dX12_manyOf_1) (JX.iadd (pc1 := 10) (pc2 := 11) (JX.iadd (pc1 := 6) (pc2 := 9) (JX.bp (n := 10) kb10 dX12_manyOf_4) (JX.imul (pc1 := 7) (pc2 := 8) (JX.ic (n := 4) rfl dX12_manyOf_6) (JX.il (k := 1) rfl dX12_manyOf_7) dX12_manyOf_8) dX12_manyOf_9) (JX.ic (n := 3) rfl dX12_manyOf_10) dX12_manyOf_11) dX12_manyOf_12) dX12_manyOf_13)
def mX12_manyOf : MS := runM 2 (some (.int)) bX12_manyOf
theorem aX12_manyOf : MA yX12_manyOf cX12_manyOf 2 (some (.int)) 1 mX12_manyOf := MA.of (plainFor_of_name (by decide)) jX12_manyOf
theorem eX12_manyOf (a0 : Nat) (a1 : Int32) (h : AH) : mX12_manyOf [.ref a0, .int a1] h = (bX12_manyOf [.val (.ref a0), .val (.int a1)] h).bind (finM (some (.int))) := rfl
/-! PieceStoreModel.pieceOf -/
theorem dX12_pieceOf_0 : decode cX12_pieceOf 0 = .ok (.aload_n 0, 1) := by decide +kernel
theorem dX12_pieceOf_1 : decode cX12_pieceOf 1 = .ok (.getfield 139, 3) := by decide +kernel
theorem dX12_pieceOf_4 : decode cX12_pieceOf 4 = .ok (.aload_n 0, 1) := by decide +kernel
theorem dX12_pieceOf_5 : decode cX12_pieceOf 5 = .ok (.getfield 117, 3) := by decide +kernel
theorem dX12_pieceOf_8 : decode cX12_pieceOf 8 = .ok (.bipush 10, 2) := by decide +kernel
theorem dX12_pieceOf_10 : decode cX12_pieceOf 10 = .ok (.iconst 4, 1) := by decide +kernel
theorem dX12_pieceOf_11 : decode cX12_pieceOf 11 = .ok (.iload_n 1, 1) := by decide +kernel
theorem dX12_pieceOf_12 : decode cX12_pieceOf 12 = .ok (.imul, 1) := by decide +kernel
theorem dX12_pieceOf_13 : decode cX12_pieceOf 13 = .ok (.iadd, 1) := by decide +kernel
theorem dX12_pieceOf_14 : decode cX12_pieceOf 14 = .ok (.iconst 2, 1) := by decide +kernel
theorem dX12_pieceOf_15 : decode cX12_pieceOf 15 = .ok (.iadd, 1) := by decide +kernel
theorem dX12_pieceOf_16 : decode cX12_pieceOf 16 = .ok (.iaload, 1) := by decide +kernel
theorem dX12_pieceOf_17 : decode cX12_pieceOf 17 = .ok (.iload_n 2, 1) := by decide +kernel
theorem dX12_pieceOf_18 : decode cX12_pieceOf 18 = .ok (.iadd, 1) := by decide +kernel
theorem dX12_pieceOf_19 : decode cX12_pieceOf 19 = .ok (.iaload, 1) := by decide +kernel
theorem dX12_pieceOf_20 : decode cX12_pieceOf 20 = .ok (.ireturn, 1) := by decide +kernel
abbrev MX12_pieceOf : MI := (RX12, cX12_pieceOf, 3, 1, false)
def bX12_pieceOf : St := (retI (aldI 2 (getR 12 41 (lvR 0)) (addI (aldI 2 (getR 12 34 (lvR 0)) (addI (addI (ciI (iI 10)) (mulI (ciI (iI 4)) (lvI 1))) (ciI (iI 2)))) (lvI 2))))
theorem jX12_pieceOf : JS MX12_pieceOf 0 0 0 21 [] bX12_pieceOf :=
  (JS.retI (pc1 := 20) (JX.iald (pc1 := 4) (pc2 := 19) (JX.getR (pc1 := 1) (c := 12) (k := 41) (i := 139) (JX.al (k := 0) rfl dX12_pieceOf_0) cl12 (by decide) rfl fk12_139 dX12_pieceOf_1) (JX.iadd (pc1 := 17) (pc2 := 18) (JX.iald (pc1 := 8) (pc2 := 16) (JX.getR (pc1 := 5) (c := 12) (k := 34) (i := 117) (JX.al (k := 0) rfl dX12_pieceOf_4) cl12 (by decide) rfl fk12_117 dX12_pieceOf_5) (JX.iadd (pc1 := 14) (pc2 := 15) (JX.iadd (pc1 := 10) (pc2 := 13) (JX.bp (n := 10) kb10 dX12_pieceOf_8) (JX.imul (pc1 := 11) (pc2 := 12) (JX.ic (n := 4) rfl dX12_pieceOf_10) (JX.il (k := 1) rfl dX12_pieceOf_11) dX12_pieceOf_12) dX12_pieceOf_13) (JX.ic (n := 2) rfl dX12_pieceOf_14) dX12_pieceOf_15) dX12_pieceOf_16) (JX.il (k := 2) rfl dX12_pieceOf_17) dX12_pieceOf_18) dX12_pieceOf_19) dX12_pieceOf_20)
def mX12_pieceOf : MS := runM 3 (some (.int)) bX12_pieceOf
theorem aX12_pieceOf : MA yX12_pieceOf cX12_pieceOf 3 (some (.int)) 1 mX12_pieceOf := MA.of (plainFor_of_name (by decide)) jX12_pieceOf
theorem eX12_pieceOf (a0 : Nat) (a1 : Int32) (a2 : Int32) (h : AH) : mX12_pieceOf [.ref a0, .int a1, .int a2] h = (bX12_pieceOf [.val (.ref a0), .val (.int a1), .val (.int a2)] h).bind (finM (some (.int))) := rfl
/-! PieceStoreModel.boxOf -/
theorem dX12_boxOf_0 : decode cX12_boxOf 0 = .ok (.aload_n 0, 1) := by decide +kernel
theorem dX12_boxOf_1 : decode cX12_boxOf 1 = .ok (.getfield 117, 3) := by decide +kernel
theorem dX12_boxOf_4 : decode cX12_boxOf 4 = .ok (.sipush 798, 3) := by decide +kernel
theorem dX12_boxOf_7 : decode cX12_boxOf 7 = .ok (.iload_n 1, 1) := by decide +kernel
theorem dX12_boxOf_8 : decode cX12_boxOf 8 = .ok (.iadd, 1) := by decide +kernel
theorem dX12_boxOf_9 : decode cX12_boxOf 9 = .ok (.iaload, 1) := by decide +kernel
theorem dX12_boxOf_10 : decode cX12_boxOf 10 = .ok (.iconst 1, 1) := by decide +kernel
theorem dX12_boxOf_11 : decode cX12_boxOf 11 = .ok (.isub, 1) := by decide +kernel
theorem dX12_boxOf_12 : decode cX12_boxOf 12 = .ok (.ireturn, 1) := by decide +kernel
abbrev MX12_boxOf : MI := (RX12, cX12_boxOf, 2, 1, false)
def bX12_boxOf : St := (retI (subI (aldI 2 (getR 12 34 (lvR 0)) (addI (ciI (iI 798)) (lvI 1))) (ciI (iI 1))))
theorem jX12_boxOf : JS MX12_boxOf 0 0 0 13 [] bX12_boxOf :=
  (JS.retI (pc1 := 12) (JX.isub (pc1 := 10) (pc2 := 11) (JX.iald (pc1 := 4) (pc2 := 9) (JX.getR (pc1 := 1) (c := 12) (k := 34) (i := 117) (JX.al (k := 0) rfl dX12_boxOf_0) cl12 (by decide) rfl fk12_117 dX12_boxOf_1) (JX.iadd (pc1 := 7) (pc2 := 8) (JX.sp (n := 798) ks798 dX12_boxOf_4) (JX.il (k := 1) rfl dX12_boxOf_7) dX12_boxOf_8) dX12_boxOf_9) (JX.ic (n := 1) rfl dX12_boxOf_10) dX12_boxOf_11) dX12_boxOf_12)
def mX12_boxOf : MS := runM 2 (some (.int)) bX12_boxOf
theorem aX12_boxOf : MA yX12_boxOf cX12_boxOf 2 (some (.int)) 1 mX12_boxOf := MA.of (plainFor_of_name (by decide)) jX12_boxOf
theorem eX12_boxOf (a0 : Nat) (a1 : Int32) (h : AH) : mX12_boxOf [.ref a0, .int a1] h = (bX12_boxOf [.val (.ref a0), .val (.int a1)] h).bind (finM (some (.int))) := rfl
/-! PieceStoreModel.isThere -/
theorem dX12_isThere_0 : decode cX12_isThere 0 = .ok (.aload_n 0, 1) := by decide +kernel
theorem dX12_isThere_1 : decode cX12_isThere 1 = .ok (.getfield 117, 3) := by decide +kernel
theorem dX12_isThere_4 : decode cX12_isThere 4 = .ok (.sipush 798, 3) := by decide +kernel
theorem dX12_isThere_7 : decode cX12_isThere 7 = .ok (.iload_n 1, 1) := by decide +kernel
theorem dX12_isThere_8 : decode cX12_isThere 8 = .ok (.iadd, 1) := by decide +kernel
theorem dX12_isThere_9 : decode cX12_isThere 9 = .ok (.iaload, 1) := by decide +kernel
theorem dX12_isThere_10 : decode cX12_isThere 10 = .ok (.ifCond .le 7, 3) := by decide +kernel
theorem dX12_isThere_13 : decode cX12_isThere 13 = .ok (.iconst 1, 1) := by decide +kernel
theorem dX12_isThere_14 : decode cX12_isThere 14 = .ok (.goto 4, 3) := by decide +kernel
theorem dX12_isThere_17 : decode cX12_isThere 17 = .ok (.iconst 0, 1) := by decide +kernel
theorem dX12_isThere_18 : decode cX12_isThere 18 = .ok (.ireturn, 1) := by decide +kernel
abbrev MX12_isThere : MI := (RX12, cX12_isThere, 2, 1, false)
def bX12_isThere : St := (retI (iteX (gt0 (aldI 2 (getR 12 34 (lvR 0)) (addI (ciI (iI 798)) (lvI 1)))) (ciI (iI 1)) (ciI (iI 0))))
theorem jX12_isThere : JS MX12_isThere 0 0 0 19 [] bX12_isThere :=
  (JS.retI (pc1 := 18) (JX.ite (l := 17) (pc1 := 13) (pc2 := 14) (pc3 := 18) (lend := 18) (CJ.gt0_f (tgt := 17) (pc1 := 10) (JX.iald (pc1 := 4) (pc2 := 9) (JX.getR (pc1 := 1) (c := 12) (k := 34) (i := 117) (JX.al (k := 0) rfl dX12_isThere_0) cl12 (by decide) rfl fk12_117 dX12_isThere_1) (JX.iadd (pc1 := 7) (pc2 := 8) (JX.sp (n := 798) ks798 dX12_isThere_4) (JX.il (k := 1) rfl dX12_isThere_7) dX12_isThere_8) dX12_isThere_9) dX12_isThere_10 rfl) (JX.ic (n := 1) rfl dX12_isThere_13) dX12_isThere_14 rfl (JX.ic (n := 0) rfl dX12_isThere_17) (Or.inl rfl)) dX12_isThere_18)
def mX12_isThere : MS := runM 2 (some (.boolean)) bX12_isThere
theorem aX12_isThere : MA yX12_isThere cX12_isThere 2 (some (.boolean)) 1 mX12_isThere := MA.of (plainFor_of_name (by decide)) jX12_isThere
theorem eX12_isThere (a0 : Nat) (a1 : Int32) (h : AH) : mX12_isThere [.ref a0, .int a1] h = (bX12_isThere [.val (.ref a0), .val (.int a1)] h).bind (finM (some (.boolean))) := rfl
/-! PieceStoreModel.enlivens -/
theorem dX12_enlivens_0 : decode cX12_enlivens 0 = .ok (.iconst 0, 1) := by decide +kernel
theorem dX12_enlivens_1 : decode cX12_enlivens 1 = .ok (.istore_n 1, 1) := by decide +kernel
theorem dX12_enlivens_2 : decode cX12_enlivens 2 = .ok (.iload_n 1, 1) := by decide +kernel
theorem dX12_enlivens_3 : decode cX12_enlivens 3 = .ok (.aload_n 0, 1) := by decide +kernel
theorem dX12_enlivens_4 : decode cX12_enlivens 4 = .ok (.getfield 117, 3) := by decide +kernel
theorem dX12_enlivens_7 : decode cX12_enlivens 7 = .ok (.iconst 1, 1) := by decide +kernel
theorem dX12_enlivens_8 : decode cX12_enlivens 8 = .ok (.iaload, 1) := by decide +kernel
theorem dX12_enlivens_9 : decode cX12_enlivens 9 = .ok (.if_icmp .ge 16, 3) := by decide +kernel
theorem dX12_enlivens_12 : decode cX12_enlivens 12 = .ok (.aload_n 0, 1) := by decide +kernel
theorem dX12_enlivens_13 : decode cX12_enlivens 13 = .ok (.getfield 179, 3) := by decide +kernel
theorem dX12_enlivens_16 : decode cX12_enlivens 16 = .ok (.iload_n 1, 1) := by decide +kernel
theorem dX12_enlivens_17 : decode cX12_enlivens 17 = .ok (.iconst 0, 1) := by decide +kernel
theorem dX12_enlivens_18 : decode cX12_enlivens 18 = .ok (.iastore, 1) := by decide +kernel
theorem dX12_enlivens_19 : decode cX12_enlivens 19 = .ok (.iinc 1 1, 3) := by decide +kernel
theorem dX12_enlivens_22 : decode cX12_enlivens 22 = .ok (.goto (-20), 3) := by decide +kernel
theorem dX12_enlivens_25 : decode cX12_enlivens 25 = .ok (.iconst 0, 1) := by decide +kernel
theorem dX12_enlivens_26 : decode cX12_enlivens 26 = .ok (.istore_n 1, 1) := by decide +kernel
theorem dX12_enlivens_27 : decode cX12_enlivens 27 = .ok (.iload_n 1, 1) := by decide +kernel
theorem dX12_enlivens_28 : decode cX12_enlivens 28 = .ok (.bipush 12, 2) := by decide +kernel
theorem dX12_enlivens_30 : decode cX12_enlivens 30 = .ok (.if_icmp .ge 49, 3) := by decide +kernel
theorem dX12_enlivens_33 : decode cX12_enlivens 33 = .ok (.aload_n 0, 1) := by decide +kernel
theorem dX12_enlivens_34 : decode cX12_enlivens 34 = .ok (.iload_n 1, 1) := by decide +kernel
theorem dX12_enlivens_35 : decode cX12_enlivens 35 = .ok (.invokevirtual 432, 3) := by decide +kernel
theorem dX12_enlivens_38 : decode cX12_enlivens 38 = .ok (.ifCond .ne 6, 3) := by decide +kernel
theorem dX12_enlivens_41 : decode cX12_enlivens 41 = .ok (.goto 32, 3) := by decide +kernel
theorem dX12_enlivens_44 : decode cX12_enlivens 44 = .ok (.iconst 0, 1) := by decide +kernel
theorem dX12_enlivens_45 : decode cX12_enlivens 45 = .ok (.istore_n 2, 1) := by decide +kernel
theorem dX12_enlivens_46 : decode cX12_enlivens 46 = .ok (.iload_n 2, 1) := by decide +kernel
theorem dX12_enlivens_47 : decode cX12_enlivens 47 = .ok (.aload_n 0, 1) := by decide +kernel
theorem dX12_enlivens_48 : decode cX12_enlivens 48 = .ok (.iload_n 1, 1) := by decide +kernel
theorem dX12_enlivens_49 : decode cX12_enlivens 49 = .ok (.invokevirtual 435, 3) := by decide +kernel
theorem dX12_enlivens_52 : decode cX12_enlivens 52 = .ok (.if_icmp .ge 21, 3) := by decide +kernel
theorem dX12_enlivens_55 : decode cX12_enlivens 55 = .ok (.aload_n 0, 1) := by decide +kernel
theorem dX12_enlivens_56 : decode cX12_enlivens 56 = .ok (.getfield 179, 3) := by decide +kernel
theorem dX12_enlivens_59 : decode cX12_enlivens 59 = .ok (.aload_n 0, 1) := by decide +kernel
theorem dX12_enlivens_60 : decode cX12_enlivens 60 = .ok (.iload_n 1, 1) := by decide +kernel
theorem dX12_enlivens_61 : decode cX12_enlivens 61 = .ok (.iload_n 2, 1) := by decide +kernel
theorem dX12_enlivens_62 : decode cX12_enlivens 62 = .ok (.invokevirtual 438, 3) := by decide +kernel
theorem dX12_enlivens_65 : decode cX12_enlivens 65 = .ok (.iconst 1, 1) := by decide +kernel
theorem dX12_enlivens_66 : decode cX12_enlivens 66 = .ok (.iastore, 1) := by decide +kernel
theorem dX12_enlivens_67 : decode cX12_enlivens 67 = .ok (.iinc 2 1, 3) := by decide +kernel
theorem dX12_enlivens_70 : decode cX12_enlivens 70 = .ok (.goto (-24), 3) := by decide +kernel
theorem dX12_enlivens_73 : decode cX12_enlivens 73 = .ok (.iinc 1 1, 3) := by decide +kernel
theorem dX12_enlivens_76 : decode cX12_enlivens 76 = .ok (.goto (-49), 3) := by decide +kernel
theorem dX12_enlivens_79 : decode cX12_enlivens 79 = .ok (.return_, 1) := by decide +kernel
abbrev MX12_enlivens : MI := (RX12, cX12_enlivens, 3, 3, false)
def lcX12_enlivens_1 : Ex Bool := (ltI (lvI 1) (aldI 2 (getR 12 34 (lvR 0)) (ciI (iI 1))))
def lbX12_enlivens_1 : St := (forB (astI (getR 12 54 (lvR 0)) (lvI 1) (ciI (iI 0))) (incI 1 (iI 1)))
def lcX12_enlivens_2 : Ex Bool := (ltI (lvI 2) (calX decI (ckV 12 1) mX12_manyOf (agC va_rf (lvR 0) (agC Value.int (lvI 1) agN))))
def lbX12_enlivens_2 : St := (forB (astI (getR 12 54 (lvR 0)) (calX decI (ckV 12 2) mX12_pieceOf (agC va_rf (lvR 0) (agC Value.int (lvI 1) (agC Value.int (lvI 2) agN)))) (ciI (iI 1))) (incI 2 (iI 1)))
def lcX12_enlivens_3 : Ex Bool := (ltI (lvI 1) (ciI (iI 12)))
def lbX12_enlivens_3 : St := (forB (seqS (ifS (notX (ne0 (calX decI (ckV 12 1) mX12_isBackup (agC va_rf (lvR 0) (agC Value.int (lvI 1) agN))))) contS) (scS 2 (seqS (lsI 2 (ciI (iI 0))) (whileS lcX12_enlivens_2 lbX12_enlivens_2)))) (incI 1 (iI 1)))
def bX12_enlivens : St := (seqS (scS 1 (seqS (lsI 1 (ciI (iI 0))) (whileS lcX12_enlivens_1 lbX12_enlivens_1))) (seqS (scS 1 (seqS (lsI 1 (ciI (iI 0))) (whileS lcX12_enlivens_3 lbX12_enlivens_3))) retV))
theorem jX12_enlivens : JS MX12_enlivens 0 0 0 80 [] bX12_enlivens :=
  (JS.seq (pc1 := 25) (JS.sc (JS.seq (pc1 := 2) (JS.is (pc1 := 1) (k := 1) (JX.ic (n := 0) rfl dX12_enlivens_0) rfl (show 1 < 3 by decide) dX12_enlivens_1) (JS.while (l := 25) (lb := 25) (pc1 := 12) (pc2 := 22) (pc3 := 25) (CJ.lt_f (tgt := 25) (pc1 := 3) (pc2 := 9) (JX.il (k := 1) rfl dX12_enlivens_2) (JX.iald (pc1 := 7) (pc2 := 8) (JX.getR (pc1 := 4) (c := 12) (k := 34) (i := 117) (JX.al (k := 0) rfl dX12_enlivens_3) cl12 (by decide) rfl fk12_117 dX12_enlivens_4) (JX.ic (n := 1) rfl dX12_enlivens_7) dX12_enlivens_8) dX12_enlivens_9 rfl) (JS.forb (pc1 := 19) (JS.ia (pc1 := 16) (pc2 := 17) (pc3 := 18) (JX.getR (pc1 := 13) (c := 12) (k := 54) (i := 179) (JX.al (k := 0) rfl dX12_enlivens_12) cl12 (by decide) rfl fk12_179 dX12_enlivens_13) (JX.il (k := 1) rfl dX12_enlivens_16) (JX.ic (n := 0) rfl dX12_enlivens_17) dX12_enlivens_18) (JS.inc (n := 1) rfl (show 1 < 3 by decide) dX12_enlivens_19)) dX12_enlivens_22 rfl (Or.inl rfl) (Or.inl rfl)))) (JS.seq (pc1 := 79) (JS.sc (JS.seq (pc1 := 27) (JS.is (pc1 := 26) (k := 1) (JX.ic (n := 0) rfl dX12_enlivens_25) rfl (show 1 < 3 by decide) dX12_enlivens_26) (JS.while (l := 79) (lb := 79) (pc1 := 33) (pc2 := 76) (pc3 := 79) (CJ.lt_f (tgt := 79) (pc1 := 28) (pc2 := 30) (JX.il (k := 1) rfl dX12_enlivens_27) (JX.bp (n := 12) kb12 dX12_enlivens_28) dX12_enlivens_30 rfl) (JS.forb (pc1 := 73) (JS.seq (pc1 := 44) (JS.ifc (l := 44) (pc1 := 41) (CJ.not_f (CJ.ne0_t (tgt := 44) (pc1 := 38) (JX.call (pc1 := 35) decI_ok (JA.r (JX.al (k := 0) rfl dX12_enlivens_33) (JA.i (JX.il (k := 1) rfl dX12_enlivens_34) JA.nil)) aX12_isBackup (RunK.V (i := 432) (c := 12) (n := 1) cl12 rfl (CN nX12_isBackup (by decide) (by decide)) gw1710 gw1712 gs82 dX12_enlivens_35) (by decide)) dX12_enlivens_38 rfl)) dX12_enlivens_41 rfl (Or.inl rfl)) (JS.sc (JS.seq (pc1 := 46) (JS.is (pc1 := 45) (k := 2) (JX.ic (n := 0) rfl dX12_enlivens_44) rfl (show 2 < 3 by decide) dX12_enlivens_45) (JS.while (l := 73) (lb := 73) (pc1 := 55) (pc2 := 70) (pc3 := 73) (CJ.lt_f (tgt := 73) (pc1 := 47) (pc2 := 52) (JX.il (k := 2) rfl dX12_enlivens_46) (JX.call (pc1 := 49) decI_ok (JA.r (JX.al (k := 0) rfl dX12_enlivens_47) (JA.i (JX.il (k := 1) rfl dX12_enlivens_48) JA.nil)) aX12_manyOf (RunK.V (i := 435) (c := 12) (n := 1) cl12 rfl (CN nX12_manyOf (by decide) (by decide)) gw1856 gw1858 gs114 dX12_enlivens_49) (by decide)) dX12_enlivens_52 rfl) (JS.forb (pc1 := 67) (JS.ia (pc1 := 59) (pc2 := 65) (pc3 := 66) (JX.getR (pc1 := 56) (c := 12) (k := 54) (i := 179) (JX.al (k := 0) rfl dX12_enlivens_55) cl12 (by decide) rfl fk12_179 dX12_enlivens_56) (JX.call (pc1 := 62) decI_ok (JA.r (JX.al (k := 0) rfl dX12_enlivens_59) (JA.i (JX.il (k := 1) rfl dX12_enlivens_60) (JA.i (JX.il (k := 2) rfl dX12_enlivens_61) JA.nil))) aX12_pieceOf (RunK.V (i := 438) (c := 12) (n := 2) cl12 rfl (CN nX12_pieceOf (by decide) (by decide)) gw1860 gw1862 gs115 dX12_enlivens_62) (by decide)) (JX.ic (n := 1) rfl dX12_enlivens_65) dX12_enlivens_66) (JS.inc (n := 1) rfl (show 2 < 3 by decide) dX12_enlivens_67)) dX12_enlivens_70 rfl (Or.inl rfl) (Or.inl rfl))))) (JS.inc (n := 1) rfl (show 1 < 3 by decide) dX12_enlivens_73)) dX12_enlivens_76 rfl (Or.inl rfl) (Or.inl rfl)))) (JS.retV dX12_enlivens_79)))
def mX12_enlivens : MS := runM 3 none bX12_enlivens
theorem aX12_enlivens : MA yX12_enlivens cX12_enlivens 3 none 3 mX12_enlivens := MA.of (plainFor_of_name (by decide)) jX12_enlivens
theorem eX12_enlivens (a0 : Nat) (h : AH) : mX12_enlivens [.ref a0] h = (bX12_enlivens [.val (.ref a0), .unset, .unset] h).bind (finM none) := rfl
/-! PieceStoreModel.bytesIn -/
theorem dX12_bytesIn_0 : decode cX12_bytesIn 0 = .ok (.iconst 0, 1) := by decide +kernel
theorem dX12_bytesIn_1 : decode cX12_bytesIn 1 = .ok (.istore_n 2, 1) := by decide +kernel
theorem dX12_bytesIn_2 : decode cX12_bytesIn 2 = .ok (.iconst 0, 1) := by decide +kernel
theorem dX12_bytesIn_3 : decode cX12_bytesIn 3 = .ok (.istore_n 3, 1) := by decide +kernel
theorem dX12_bytesIn_4 : decode cX12_bytesIn 4 = .ok (.iload_n 3, 1) := by decide +kernel
theorem dX12_bytesIn_5 : decode cX12_bytesIn 5 = .ok (.aload_n 0, 1) := by decide +kernel
theorem dX12_bytesIn_6 : decode cX12_bytesIn 6 = .ok (.getfield 117, 3) := by decide +kernel
theorem dX12_bytesIn_9 : decode cX12_bytesIn 9 = .ok (.iconst 1, 1) := by decide +kernel
theorem dX12_bytesIn_10 : decode cX12_bytesIn 10 = .ok (.iaload, 1) := by decide +kernel
theorem dX12_bytesIn_11 : decode cX12_bytesIn 11 = .ok (.if_icmp .ge 39, 3) := by decide +kernel
theorem dX12_bytesIn_14 : decode cX12_bytesIn 14 = .ok (.iload_n 2, 1) := by decide +kernel
theorem dX12_bytesIn_15 : decode cX12_bytesIn 15 = .ok (.aload_n 0, 1) := by decide +kernel
theorem dX12_bytesIn_16 : decode cX12_bytesIn 16 = .ok (.iload_n 3, 1) := by decide +kernel
theorem dX12_bytesIn_17 : decode cX12_bytesIn 17 = .ok (.invokevirtual 441, 3) := by decide +kernel
theorem dX12_bytesIn_20 : decode cX12_bytesIn 20 = .ok (.ifCond .eq 21, 3) := by decide +kernel
theorem dX12_bytesIn_23 : decode cX12_bytesIn 23 = .ok (.aload_n 0, 1) := by decide +kernel
theorem dX12_bytesIn_24 : decode cX12_bytesIn 24 = .ok (.iload_n 3, 1) := by decide +kernel
theorem dX12_bytesIn_25 : decode cX12_bytesIn 25 = .ok (.invokevirtual 444, 3) := by decide +kernel
theorem dX12_bytesIn_28 : decode cX12_bytesIn 28 = .ok (.iload_n 1, 1) := by decide +kernel
theorem dX12_bytesIn_29 : decode cX12_bytesIn 29 = .ok (.if_icmp .ne 12, 3) := by decide +kernel
theorem dX12_bytesIn_32 : decode cX12_bytesIn 32 = .ok (.aload_n 0, 1) := by decide +kernel
theorem dX12_bytesIn_33 : decode cX12_bytesIn 33 = .ok (.getfield 145, 3) := by decide +kernel
theorem dX12_bytesIn_36 : decode cX12_bytesIn 36 = .ok (.iload_n 3, 1) := by decide +kernel
theorem dX12_bytesIn_37 : decode cX12_bytesIn 37 = .ok (.iaload, 1) := by decide +kernel
theorem dX12_bytesIn_38 : decode cX12_bytesIn 38 = .ok (.goto 4, 3) := by decide +kernel
theorem dX12_bytesIn_41 : decode cX12_bytesIn 41 = .ok (.iconst 0, 1) := by decide +kernel
theorem dX12_bytesIn_42 : decode cX12_bytesIn 42 = .ok (.iadd, 1) := by decide +kernel
theorem dX12_bytesIn_43 : decode cX12_bytesIn 43 = .ok (.istore_n 2, 1) := by decide +kernel
theorem dX12_bytesIn_44 : decode cX12_bytesIn 44 = .ok (.iinc 3 1, 3) := by decide +kernel
theorem dX12_bytesIn_47 : decode cX12_bytesIn 47 = .ok (.goto (-43), 3) := by decide +kernel
theorem dX12_bytesIn_50 : decode cX12_bytesIn 50 = .ok (.iload_n 2, 1) := by decide +kernel
theorem dX12_bytesIn_51 : decode cX12_bytesIn 51 = .ok (.ireturn, 1) := by decide +kernel
abbrev MX12_bytesIn : MI := (RX12, cX12_bytesIn, 4, 2, false)
def lcX12_bytesIn_1 : Ex Bool := (ltI (lvI 3) (aldI 2 (getR 12 34 (lvR 0)) (ciI (iI 1))))
def lbX12_bytesIn_1 : St := (forB (lsI 2 (addI (lvI 2) (iteX (andX (ne0 (calX decI (ckV 12 1) mX12_isThere (agC va_rf (lvR 0) (agC Value.int (lvI 3) agN)))) (eqI (calX decI (ckV 12 1) mX12_boxOf (agC va_rf (lvR 0) (agC Value.int (lvI 3) agN))) (lvI 1))) (aldI 2 (getR 12 43 (lvR 0)) (lvI 3)) (ciI (iI 0))))) (incI 3 (iI 1)))
def bX12_bytesIn : St := (seqS (lsI 2 (ciI (iI 0))) (seqS (scS 3 (seqS (lsI 3 (ciI (iI 0))) (whileS lcX12_bytesIn_1 lbX12_bytesIn_1))) (retI (lvI 2))))
theorem jX12_bytesIn : JS MX12_bytesIn 0 0 0 52 [] bX12_bytesIn :=
  (JS.seq (pc1 := 2) (JS.is (pc1 := 1) (k := 2) (JX.ic (n := 0) rfl dX12_bytesIn_0) rfl (show 2 < 4 by decide) dX12_bytesIn_1) (JS.seq (pc1 := 50) (JS.sc (JS.seq (pc1 := 4) (JS.is (pc1 := 3) (k := 3) (JX.ic (n := 0) rfl dX12_bytesIn_2) rfl (show 3 < 4 by decide) dX12_bytesIn_3) (JS.while (l := 50) (lb := 50) (pc1 := 14) (pc2 := 47) (pc3 := 50) (CJ.lt_f (tgt := 50) (pc1 := 5) (pc2 := 11) (JX.il (k := 3) rfl dX12_bytesIn_4) (JX.iald (pc1 := 9) (pc2 := 10) (JX.getR (pc1 := 6) (c := 12) (k := 34) (i := 117) (JX.al (k := 0) rfl dX12_bytesIn_5) cl12 (by decide) rfl fk12_117 dX12_bytesIn_6) (JX.ic (n := 1) rfl dX12_bytesIn_9) dX12_bytesIn_10) dX12_bytesIn_11 rfl) (JS.forb (pc1 := 44) (JS.is (pc1 := 43) (k := 2) (JX.iadd (pc1 := 15) (pc2 := 42) (JX.il (k := 2) rfl dX12_bytesIn_14) (JX.ite (l := 41) (pc1 := 32) (pc2 := 38) (pc3 := 42) (lend := 42) (CJ.and_f (pc1 := 23) (CJ.ne0_f (tgt := 41) (pc1 := 20) (JX.call (pc1 := 17) decI_ok (JA.r (JX.al (k := 0) rfl dX12_bytesIn_15) (JA.i (JX.il (k := 3) rfl dX12_bytesIn_16) JA.nil)) aX12_isThere (RunK.V (i := 441) (c := 12) (n := 1) cl12 rfl (CN nX12_isThere (by decide) (by decide)) gw1753 gw1755 gs90 dX12_bytesIn_17) (by decide)) dX12_bytesIn_20 rfl) (CJ.eq_f (tgt := 41) (pc1 := 28) (pc2 := 29) (JX.call (pc1 := 25) decI_ok (JA.r (JX.al (k := 0) rfl dX12_bytesIn_23) (JA.i (JX.il (k := 3) rfl dX12_bytesIn_24) JA.nil)) aX12_boxOf (RunK.V (i := 444) (c := 12) (n := 1) cl12 rfl (CN nX12_boxOf (by decide) (by decide)) gw1828 gw1830 gs108 dX12_bytesIn_25) (by decide)) (JX.il (k := 1) rfl dX12_bytesIn_28) dX12_bytesIn_29 rfl)) (JX.iald (pc1 := 36) (pc2 := 37) (JX.getR (pc1 := 33) (c := 12) (k := 43) (i := 145) (JX.al (k := 0) rfl dX12_bytesIn_32) cl12 (by decide) rfl fk12_145 dX12_bytesIn_33) (JX.il (k := 3) rfl dX12_bytesIn_36) dX12_bytesIn_37) dX12_bytesIn_38 rfl (JX.ic (n := 0) rfl dX12_bytesIn_41) (Or.inl rfl)) dX12_bytesIn_42) rfl (show 2 < 4 by decide) dX12_bytesIn_43) (JS.inc (n := 1) rfl (show 3 < 4 by decide) dX12_bytesIn_44)) dX12_bytesIn_47 rfl (Or.inl rfl) (Or.inl rfl)))) (JS.retI (pc1 := 51) (JX.il (k := 2) rfl dX12_bytesIn_50) dX12_bytesIn_51)))
def mX12_bytesIn : MS := runM 4 (some (.int)) bX12_bytesIn
theorem aX12_bytesIn : MA yX12_bytesIn cX12_bytesIn 4 (some (.int)) 2 mX12_bytesIn := MA.of (plainFor_of_name (by decide)) jX12_bytesIn
theorem eX12_bytesIn (a0 : Nat) (a1 : Int32) (h : AH) : mX12_bytesIn [.ref a0, .int a1] h = (bX12_bytesIn [.val (.ref a0), .val (.int a1), .unset, .unset] h).bind (finM (some (.int))) := rfl
/-! PieceStoreModel.piecesIn -/
theorem dX12_piecesIn_0 : decode cX12_piecesIn 0 = .ok (.iconst 0, 1) := by decide +kernel
theorem dX12_piecesIn_1 : decode cX12_piecesIn 1 = .ok (.istore_n 2, 1) := by decide +kernel
theorem dX12_piecesIn_2 : decode cX12_piecesIn 2 = .ok (.iconst 0, 1) := by decide +kernel
theorem dX12_piecesIn_3 : decode cX12_piecesIn 3 = .ok (.istore_n 3, 1) := by decide +kernel
theorem dX12_piecesIn_4 : decode cX12_piecesIn 4 = .ok (.iload_n 3, 1) := by decide +kernel
theorem dX12_piecesIn_5 : decode cX12_piecesIn 5 = .ok (.aload_n 0, 1) := by decide +kernel
theorem dX12_piecesIn_6 : decode cX12_piecesIn 6 = .ok (.getfield 117, 3) := by decide +kernel
theorem dX12_piecesIn_9 : decode cX12_piecesIn 9 = .ok (.iconst 1, 1) := by decide +kernel
theorem dX12_piecesIn_10 : decode cX12_piecesIn 10 = .ok (.iaload, 1) := by decide +kernel
theorem dX12_piecesIn_11 : decode cX12_piecesIn 11 = .ok (.if_icmp .ge 34, 3) := by decide +kernel
theorem dX12_piecesIn_14 : decode cX12_piecesIn 14 = .ok (.iload_n 2, 1) := by decide +kernel
theorem dX12_piecesIn_15 : decode cX12_piecesIn 15 = .ok (.aload_n 0, 1) := by decide +kernel
theorem dX12_piecesIn_16 : decode cX12_piecesIn 16 = .ok (.iload_n 3, 1) := by decide +kernel
theorem dX12_piecesIn_17 : decode cX12_piecesIn 17 = .ok (.invokevirtual 441, 3) := by decide +kernel
theorem dX12_piecesIn_20 : decode cX12_piecesIn 20 = .ok (.ifCond .eq 16, 3) := by decide +kernel
theorem dX12_piecesIn_23 : decode cX12_piecesIn 23 = .ok (.aload_n 0, 1) := by decide +kernel
theorem dX12_piecesIn_24 : decode cX12_piecesIn 24 = .ok (.iload_n 3, 1) := by decide +kernel
theorem dX12_piecesIn_25 : decode cX12_piecesIn 25 = .ok (.invokevirtual 444, 3) := by decide +kernel
theorem dX12_piecesIn_28 : decode cX12_piecesIn 28 = .ok (.iload_n 1, 1) := by decide +kernel
theorem dX12_piecesIn_29 : decode cX12_piecesIn 29 = .ok (.if_icmp .ne 7, 3) := by decide +kernel
theorem dX12_piecesIn_32 : decode cX12_piecesIn 32 = .ok (.iconst 1, 1) := by decide +kernel
theorem dX12_piecesIn_33 : decode cX12_piecesIn 33 = .ok (.goto 4, 3) := by decide +kernel
theorem dX12_piecesIn_36 : decode cX12_piecesIn 36 = .ok (.iconst 0, 1) := by decide +kernel
theorem dX12_piecesIn_37 : decode cX12_piecesIn 37 = .ok (.iadd, 1) := by decide +kernel
theorem dX12_piecesIn_38 : decode cX12_piecesIn 38 = .ok (.istore_n 2, 1) := by decide +kernel
theorem dX12_piecesIn_39 : decode cX12_piecesIn 39 = .ok (.iinc 3 1, 3) := by decide +kernel
theorem dX12_piecesIn_42 : decode cX12_piecesIn 42 = .ok (.goto (-38), 3) := by decide +kernel
theorem dX12_piecesIn_45 : decode cX12_piecesIn 45 = .ok (.iload_n 2, 1) := by decide +kernel
theorem dX12_piecesIn_46 : decode cX12_piecesIn 46 = .ok (.ireturn, 1) := by decide +kernel
abbrev MX12_piecesIn : MI := (RX12, cX12_piecesIn, 4, 2, false)
def lcX12_piecesIn_1 : Ex Bool := (ltI (lvI 3) (aldI 2 (getR 12 34 (lvR 0)) (ciI (iI 1))))
def lbX12_piecesIn_1 : St := (forB (lsI 2 (addI (lvI 2) (iteX (andX (ne0 (calX decI (ckV 12 1) mX12_isThere (agC va_rf (lvR 0) (agC Value.int (lvI 3) agN)))) (eqI (calX decI (ckV 12 1) mX12_boxOf (agC va_rf (lvR 0) (agC Value.int (lvI 3) agN))) (lvI 1))) (ciI (iI 1)) (ciI (iI 0))))) (incI 3 (iI 1)))
def bX12_piecesIn : St := (seqS (lsI 2 (ciI (iI 0))) (seqS (scS 3 (seqS (lsI 3 (ciI (iI 0))) (whileS lcX12_piecesIn_1 lbX12_piecesIn_1))) (retI (lvI 2))))
theorem jX12_piecesIn : JS MX12_piecesIn 0 0 0 47 [] bX12_piecesIn :=
  (JS.seq (pc1 := 2) (JS.is (pc1 := 1) (k := 2) (JX.ic (n := 0) rfl dX12_piecesIn_0) rfl (show 2 < 4 by decide) dX12_piecesIn_1) (JS.seq (pc1 := 45) (JS.sc (JS.seq (pc1 := 4) (JS.is (pc1 := 3) (k := 3) (JX.ic (n := 0) rfl dX12_piecesIn_2) rfl (show 3 < 4 by decide) dX12_piecesIn_3) (JS.while (l := 45) (lb := 45) (pc1 := 14) (pc2 := 42) (pc3 := 45) (CJ.lt_f (tgt := 45) (pc1 := 5) (pc2 := 11) (JX.il (k := 3) rfl dX12_piecesIn_4) (JX.iald (pc1 := 9) (pc2 := 10) (JX.getR (pc1 := 6) (c := 12) (k := 34) (i := 117) (JX.al (k := 0) rfl dX12_piecesIn_5) cl12 (by decide) rfl fk12_117 dX12_piecesIn_6) (JX.ic (n := 1) rfl dX12_piecesIn_9) dX12_piecesIn_10) dX12_piecesIn_11 rfl) (JS.forb (pc1 := 39) (JS.is (pc1 := 38) (k := 2) (JX.iadd (pc1 := 15) (pc2 := 37) (JX.il (k := 2) rfl dX12_piecesIn_14) (JX.ite (l := 36) (pc1 := 32) (pc2 := 33) (pc3 := 37) (lend := 37) (CJ.and_f (pc1 := 23) (CJ.ne0_f (tgt := 36) (pc1 := 20) (JX.call (pc1 := 17) decI_ok (JA.r (JX.al (k := 0) rfl dX12_piecesIn_15) (JA.i (JX.il (k := 3) rfl dX12_piecesIn_16) JA.nil)) aX12_isThere (RunK.V (i := 441) (c := 12) (n := 1) cl12 rfl (CN nX12_isThere (by decide) (by decide)) gw1753 gw1755 gs90 dX12_piecesIn_17) (by decide)) dX12_piecesIn_20 rfl) (CJ.eq_f (tgt := 36) (pc1 := 28) (pc2 := 29) (JX.call (pc1 := 25) decI_ok (JA.r (JX.al (k := 0) rfl dX12_piecesIn_23) (JA.i (JX.il (k := 3) rfl dX12_piecesIn_24) JA.nil)) aX12_boxOf (RunK.V (i := 444) (c := 12) (n := 1) cl12 rfl (CN nX12_boxOf (by decide) (by decide)) gw1828 gw1830 gs108 dX12_piecesIn_25) (by decide)) (JX.il (k := 1) rfl dX12_piecesIn_28) dX12_piecesIn_29 rfl)) (JX.ic (n := 1) rfl dX12_piecesIn_32) dX12_piecesIn_33 rfl (JX.ic (n := 0) rfl dX12_piecesIn_36) (Or.inl rfl)) dX12_piecesIn_37) rfl (show 2 < 4 by decide) dX12_piecesIn_38) (JS.inc (n := 1) rfl (show 3 < 4 by decide) dX12_piecesIn_39)) dX12_piecesIn_42 rfl (Or.inl rfl) (Or.inl rfl)))) (JS.retI (pc1 := 46) (JX.il (k := 2) rfl dX12_piecesIn_45) dX12_piecesIn_46)))
def mX12_piecesIn : MS := runM 4 (some (.int)) bX12_piecesIn
theorem aX12_piecesIn : MA yX12_piecesIn cX12_piecesIn 4 (some (.int)) 2 mX12_piecesIn := MA.of (plainFor_of_name (by decide)) jX12_piecesIn
theorem eX12_piecesIn (a0 : Nat) (a1 : Int32) (h : AH) : mX12_piecesIn [.ref a0, .int a1] h = (bX12_piecesIn [.val (.ref a0), .val (.int a1), .unset, .unset] h).bind (finM (some (.int))) := rfl
/-! PieceStoreModel.lays -/
theorem dX12_lays_0 : decode cX12_lays 0 = .ok (.aload_n 0, 1) := by decide +kernel
theorem dX12_lays_1 : decode cX12_lays 1 = .ok (.getfield 117, 3) := by decide +kernel
theorem dX12_lays_4 : decode cX12_lays 4 = .ok (.iconst 5, 1) := by decide +kernel
theorem dX12_lays_5 : decode cX12_lays 5 = .ok (.iaload, 1) := by decide +kernel
theorem dX12_lays_6 : decode cX12_lays 6 = .ok (.iconst 1, 1) := by decide +kernel
theorem dX12_lays_7 : decode cX12_lays 7 = .ok (.isub, 1) := by decide +kernel
theorem dX12_lays_8 : decode cX12_lays 8 = .ok (.istore_n 2, 1) := by decide +kernel
theorem dX12_lays_9 : decode cX12_lays 9 = .ok (.iload_n 2, 1) := by decide +kernel
theorem dX12_lays_10 : decode cX12_lays 10 = .ok (.ifCond .lt 23, 3) := by decide +kernel
theorem dX12_lays_13 : decode cX12_lays 13 = .ok (.aload_n 0, 1) := by decide +kernel
theorem dX12_lays_14 : decode cX12_lays 14 = .ok (.iload_n 2, 1) := by decide +kernel
theorem dX12_lays_15 : decode cX12_lays 15 = .ok (.invokevirtual 447, 3) := by decide +kernel
theorem dX12_lays_18 : decode cX12_lays 18 = .ok (.aload_n 0, 1) := by decide +kernel
theorem dX12_lays_19 : decode cX12_lays 19 = .ok (.getfield 145, 3) := by decide +kernel
theorem dX12_lays_22 : decode cX12_lays 22 = .ok (.iload_n 1, 1) := by decide +kernel
theorem dX12_lays_23 : decode cX12_lays 23 = .ok (.iaload, 1) := by decide +kernel
theorem dX12_lays_24 : decode cX12_lays 24 = .ok (.iadd, 1) := by decide +kernel
theorem dX12_lays_25 : decode cX12_lays 25 = .ok (.aload_n 0, 1) := by decide +kernel
theorem dX12_lays_26 : decode cX12_lays 26 = .ok (.iconst 0, 1) := by decide +kernel
theorem dX12_lays_27 : decode cX12_lays 27 = .ok (.invokevirtual 414, 3) := by decide +kernel
theorem dX12_lays_30 : decode cX12_lays 30 = .ok (.if_icmp .le 7, 3) := by decide +kernel
theorem dX12_lays_33 : decode cX12_lays 33 = .ok (.iconst 1, 1) := by decide +kernel
theorem dX12_lays_34 : decode cX12_lays 34 = .ok (.goto 4, 3) := by decide +kernel
theorem dX12_lays_37 : decode cX12_lays 37 = .ok (.iconst 0, 1) := by decide +kernel
theorem dX12_lays_38 : decode cX12_lays 38 = .ok (.istore_n 3, 1) := by decide +kernel
theorem dX12_lays_39 : decode cX12_lays 39 = .ok (.iload_n 3, 1) := by decide +kernel
theorem dX12_lays_40 : decode cX12_lays 40 = .ok (.ifCond .eq 39, 3) := by decide +kernel
theorem dX12_lays_43 : decode cX12_lays 43 = .ok (.iinc 2 1, 3) := by decide +kernel
theorem dX12_lays_46 : decode cX12_lays 46 = .ok (.aload_n 0, 1) := by decide +kernel
theorem dX12_lays_47 : decode cX12_lays 47 = .ok (.bipush 58, 2) := by decide +kernel
theorem dX12_lays_49 : decode cX12_lays 49 = .ok (.iload_n 2, 1) := by decide +kernel
theorem dX12_lays_50 : decode cX12_lays 50 = .ok (.iadd, 1) := by decide +kernel
theorem dX12_lays_51 : decode cX12_lays 51 = .ok (.aload_n 0, 1) := by decide +kernel
theorem dX12_lays_52 : decode cX12_lays 52 = .ok (.getfield 117, 3) := by decide +kernel
theorem dX12_lays_55 : decode cX12_lays 55 = .ok (.bipush 6, 2) := by decide +kernel
theorem dX12_lays_57 : decode cX12_lays 57 = .ok (.iaload, 1) := by decide +kernel
theorem dX12_lays_58 : decode cX12_lays 58 = .ok (.invokevirtual 450, 3) := by decide +kernel
theorem dX12_lays_61 : decode cX12_lays 61 = .ok (.aload_n 0, 1) := by decide +kernel
theorem dX12_lays_62 : decode cX12_lays 62 = .ok (.sipush 368, 3) := by decide +kernel
theorem dX12_lays_65 : decode cX12_lays 65 = .ok (.iload_n 2, 1) := by decide +kernel
theorem dX12_lays_66 : decode cX12_lays 66 = .ok (.iadd, 1) := by decide +kernel
theorem dX12_lays_67 : decode cX12_lays 67 = .ok (.iconst 0, 1) := by decide +kernel
theorem dX12_lays_68 : decode cX12_lays 68 = .ok (.invokevirtual 450, 3) := by decide +kernel
theorem dX12_lays_71 : decode cX12_lays 71 = .ok (.aload_n 0, 1) := by decide +kernel
theorem dX12_lays_72 : decode cX12_lays 72 = .ok (.iconst 5, 1) := by decide +kernel
theorem dX12_lays_73 : decode cX12_lays 73 = .ok (.iload_n 2, 1) := by decide +kernel
theorem dX12_lays_74 : decode cX12_lays 74 = .ok (.iconst 1, 1) := by decide +kernel
theorem dX12_lays_75 : decode cX12_lays 75 = .ok (.iadd, 1) := by decide +kernel
theorem dX12_lays_76 : decode cX12_lays 76 = .ok (.invokevirtual 450, 3) := by decide +kernel
theorem dX12_lays_79 : decode cX12_lays 79 = .ok (.aload_n 0, 1) := by decide +kernel
theorem dX12_lays_80 : decode cX12_lays 80 = .ok (.sipush 11098, 3) := by decide +kernel
theorem dX12_lays_83 : decode cX12_lays 83 = .ok (.iload_n 1, 1) := by decide +kernel
theorem dX12_lays_84 : decode cX12_lays 84 = .ok (.iadd, 1) := by decide +kernel
theorem dX12_lays_85 : decode cX12_lays 85 = .ok (.iload_n 3, 1) := by decide +kernel
theorem dX12_lays_86 : decode cX12_lays 86 = .ok (.ifCond .eq 7, 3) := by decide +kernel
theorem dX12_lays_89 : decode cX12_lays 89 = .ok (.iconst 0, 1) := by decide +kernel
theorem dX12_lays_90 : decode cX12_lays 90 = .ok (.goto 8, 3) := by decide +kernel
theorem dX12_lays_93 : decode cX12_lays 93 = .ok (.aload_n 0, 1) := by decide +kernel
theorem dX12_lays_94 : decode cX12_lays 94 = .ok (.iload_n 2, 1) := by decide +kernel
theorem dX12_lays_95 : decode cX12_lays 95 = .ok (.invokevirtual 453, 3) := by decide +kernel
theorem dX12_lays_98 : decode cX12_lays 98 = .ok (.invokevirtual 450, 3) := by decide +kernel
theorem dX12_lays_101 : decode cX12_lays 101 = .ok (.aload_n 0, 1) := by decide +kernel
theorem dX12_lays_102 : decode cX12_lays 102 = .ok (.sipush 798, 3) := by decide +kernel
theorem dX12_lays_105 : decode cX12_lays 105 = .ok (.iload_n 1, 1) := by decide +kernel
theorem dX12_lays_106 : decode cX12_lays 106 = .ok (.iadd, 1) := by decide +kernel
theorem dX12_lays_107 : decode cX12_lays 107 = .ok (.iload_n 2, 1) := by decide +kernel
theorem dX12_lays_108 : decode cX12_lays 108 = .ok (.iconst 1, 1) := by decide +kernel
theorem dX12_lays_109 : decode cX12_lays 109 = .ok (.iadd, 1) := by decide +kernel
theorem dX12_lays_110 : decode cX12_lays 110 = .ok (.invokevirtual 450, 3) := by decide +kernel
theorem dX12_lays_113 : decode cX12_lays 113 = .ok (.return_, 1) := by decide +kernel
abbrev MX12_lays : MI := (RX12, cX12_lays, 4, 3, false)
def bX12_lays : St := (seqS (lsI 2 (subI (aldI 2 (getR 12 34 (lvR 0)) (ciI (iI 5))) (ciI (iI 1)))) (seqS (lsI 3 (iteX (orX (lt0 (lvI 2)) (gtI (addI (calX decI (ckV 12 1) mX12_bytesIn (agC va_rf (lvR 0) (agC Value.int (lvI 2) agN))) (aldI 2 (getR 12 43 (lvR 0)) (lvI 1))) (calX decI (ckV 12 1) mX12_by (agC va_rf (lvR 0) (agC Value.int (ciI (iI 0)) agN))))) (ciI (iI 1)) (ciI (iI 0)))) (seqS (ifS (ne0 (lvI 3)) (seqS (incI 2 (iI 1)) (seqS (calS (ckV 12 2) mX12_puts (agC va_rf (lvR 0) (agC Value.int (addI (ciI (iI 58)) (lvI 2)) (agC Value.int (aldI 2 (getR 12 34 (lvR 0)) (ciI (iI 6))) agN)))) (seqS (calS (ckV 12 2) mX12_puts (agC va_rf (lvR 0) (agC Value.int (addI (ciI (iI 368)) (lvI 2)) (agC Value.int (ciI (iI 0)) agN)))) (calS (ckV 12 2) mX12_puts (agC va_rf (lvR 0) (agC Value.int (ciI (iI 5)) (agC Value.int (addI (lvI 2) (ciI (iI 1))) agN)))))))) (seqS (calS (ckV 12 2) mX12_puts (agC va_rf (lvR 0) (agC Value.int (addI (ciI (iI 11098)) (lvI 1)) (agC Value.int (iteX (ne0 (lvI 3)) (ciI (iI 0)) (calX decI (ckV 12 1) mX12_piecesIn (agC va_rf (lvR 0) (agC Value.int (lvI 2) agN)))) agN)))) (seqS (calS (ckV 12 2) mX12_puts (agC va_rf (lvR 0) (agC Value.int (addI (ciI (iI 798)) (lvI 1)) (agC Value.int (addI (lvI 2) (ciI (iI 1))) agN)))) retV)))))
theorem jX12_lays : JS MX12_lays 0 0 0 114 [] bX12_lays :=
  (JS.seq (pc1 := 9) (JS.is (pc1 := 8) (k := 2) (JX.isub (pc1 := 6) (pc2 := 7) (JX.iald (pc1 := 4) (pc2 := 5) (JX.getR (pc1 := 1) (c := 12) (k := 34) (i := 117) (JX.al (k := 0) rfl dX12_lays_0) cl12 (by decide) rfl fk12_117 dX12_lays_1) (JX.ic (n := 5) rfl dX12_lays_4) dX12_lays_5) (JX.ic (n := 1) rfl dX12_lays_6) dX12_lays_7) rfl (show 2 < 4 by decide) dX12_lays_8) (JS.seq (pc1 := 39) (JS.is (pc1 := 38) (k := 3) (JX.ite (l := 37) (pc1 := 33) (pc2 := 34) (pc3 := 38) (lend := 38) (CJ.or_f (l := 33) (pc1 := 13) (CJ.lt0_t (tgt := 33) (pc1 := 10) (JX.il (k := 2) rfl dX12_lays_9) dX12_lays_10 rfl) (CJ.gt_f (tgt := 37) (pc1 := 25) (pc2 := 30) (JX.iadd (pc1 := 18) (pc2 := 24) (JX.call (pc1 := 15) decI_ok (JA.r (JX.al (k := 0) rfl dX12_lays_13) (JA.i (JX.il (k := 2) rfl dX12_lays_14) JA.nil)) aX12_bytesIn (RunK.V (i := 447) (c := 12) (n := 1) cl12 rfl (CN nX12_bytesIn (by decide) (by decide)) gw1824 gw1826 gs107 dX12_lays_15) (by decide)) (JX.iald (pc1 := 22) (pc2 := 23) (JX.getR (pc1 := 19) (c := 12) (k := 43) (i := 145) (JX.al (k := 0) rfl dX12_lays_18) cl12 (by decide) rfl fk12_145 dX12_lays_19) (JX.il (k := 1) rfl dX12_lays_22) dX12_lays_23) dX12_lays_24) (JX.call (pc1 := 27) decI_ok (JA.r (JX.al (k := 0) rfl dX12_lays_25) (JA.i (JX.ic (n := 0) rfl dX12_lays_26) JA.nil)) aX12_by (RunK.V (i := 414) (c := 12) (n := 1) cl12 rfl (CN nX12_by (by decide) (by decide)) gw1714 gw1716 gs83 dX12_lays_27) (by decide)) dX12_lays_30 rfl) (Or.inl rfl)) (JX.ic (n := 1) rfl dX12_lays_33) dX12_lays_34 rfl (JX.ic (n := 0) rfl dX12_lays_37) (Or.inl rfl)) rfl (show 3 < 4 by decide) dX12_lays_38) (JS.seq (pc1 := 79) (JS.iff (l := 79) (pc1 := 43) (CJ.ne0_f (tgt := 79) (pc1 := 40) (JX.il (k := 3) rfl dX12_lays_39) dX12_lays_40 rfl) (JS.seq (pc1 := 46) (JS.inc (n := 1) rfl (show 2 < 4 by decide) dX12_lays_43) (JS.seq (pc1 := 61) (JS.call (pc1 := 58) (JA.r (JX.al (k := 0) rfl dX12_lays_46) (JA.i (JX.iadd (pc1 := 49) (pc2 := 50) (JX.bp (n := 58) kb58 dX12_lays_47) (JX.il (k := 2) rfl dX12_lays_49) dX12_lays_50) (JA.i (JX.iald (pc1 := 55) (pc2 := 57) (JX.getR (pc1 := 52) (c := 12) (k := 34) (i := 117) (JX.al (k := 0) rfl dX12_lays_51) cl12 (by decide) rfl fk12_117 dX12_lays_52) (JX.bp (n := 6) kb6 dX12_lays_55) dX12_lays_57) JA.nil))) aX12_puts (RunK.V (i := 450) (c := 12) (n := 2) cl12 rfl (CN nX12_puts (by decide) (by decide)) gw1816 gw1818 gs105 dX12_lays_58)) (JS.seq (pc1 := 71) (JS.call (pc1 := 68) (JA.r (JX.al (k := 0) rfl dX12_lays_61) (JA.i (JX.iadd (pc1 := 65) (pc2 := 66) (JX.sp (n := 368) ks368 dX12_lays_62) (JX.il (k := 2) rfl dX12_lays_65) dX12_lays_66) (JA.i (JX.ic (n := 0) rfl dX12_lays_67) JA.nil))) aX12_puts (RunK.V (i := 450) (c := 12) (n := 2) cl12 rfl (CN nX12_puts (by decide) (by decide)) gw1816 gw1818 gs105 dX12_lays_68)) (JS.call (pc1 := 76) (JA.r (JX.al (k := 0) rfl dX12_lays_71) (JA.i (JX.ic (n := 5) rfl dX12_lays_72) (JA.i (JX.iadd (pc1 := 74) (pc2 := 75) (JX.il (k := 2) rfl dX12_lays_73) (JX.ic (n := 1) rfl dX12_lays_74) dX12_lays_75) JA.nil))) aX12_puts (RunK.V (i := 450) (c := 12) (n := 2) cl12 rfl (CN nX12_puts (by decide) (by decide)) gw1816 gw1818 gs105 dX12_lays_76))))) (Or.inl rfl)) (JS.seq (pc1 := 101) (JS.call (pc1 := 98) (JA.r (JX.al (k := 0) rfl dX12_lays_79) (JA.i (JX.iadd (pc1 := 83) (pc2 := 84) (JX.sp (n := 11098) ks11098 dX12_lays_80) (JX.il (k := 1) rfl dX12_lays_83) dX12_lays_84) (JA.i (JX.ite (l := 93) (pc1 := 89) (pc2 := 90) (pc3 := 98) (lend := 98) (CJ.ne0_f (tgt := 93) (pc1 := 86) (JX.il (k := 3) rfl dX12_lays_85) dX12_lays_86 rfl) (JX.ic (n := 0) rfl dX12_lays_89) dX12_lays_90 rfl (JX.call (pc1 := 95) decI_ok (JA.r (JX.al (k := 0) rfl dX12_lays_93) (JA.i (JX.il (k := 2) rfl dX12_lays_94) JA.nil)) aX12_piecesIn (RunK.V (i := 453) (c := 12) (n := 1) cl12 rfl (CN nX12_piecesIn (by decide) (by decide)) gw1832 gw1834 gs109 dX12_lays_95) (by decide)) (Or.inl rfl)) JA.nil))) aX12_puts (RunK.V (i := 450) (c := 12) (n := 2) cl12 rfl (CN nX12_puts (by decide) (by decide)) gw1816 gw1818 gs105 dX12_lays_98)) (JS.seq (pc1 := 113) (JS.call (pc1 := 110) (JA.r (JX.al (k := 0) rfl dX12_lays_101) (JA.i (JX.iadd (pc1 := 105) (pc2 := 106) (JX.sp (n := 798) ks798 dX12_lays_102) (JX.il (k := 1) rfl dX12_lays_105) dX12_lays_106) (JA.i (JX.iadd (pc1 := 108) (pc2 := 109) (JX.il (k := 2) rfl dX12_lays_107) (JX.ic (n := 1) rfl dX12_lays_108) dX12_lays_109) JA.nil))) aX12_puts (RunK.V (i := 450) (c := 12) (n := 2) cl12 rfl (CN nX12_puts (by decide) (by decide)) gw1816 gw1818 gs105 dX12_lays_110)) (JS.retV dX12_lays_113))))))
def mX12_lays : MS := runM 4 none bX12_lays
theorem aX12_lays : MA yX12_lays cX12_lays 4 none 3 mX12_lays := MA.of (plainFor_of_name (by decide)) jX12_lays
theorem eX12_lays (a0 : Nat) (a1 : Int32) (h : AH) : mX12_lays [.ref a0, .int a1] h = (bX12_lays [.val (.ref a0), .val (.int a1), .unset, .unset] h).bind (finM none) := rfl
