/-! ===== by program: mk20.py: methods ===== -/
/-! PieceStoreModel.reads -/
theorem dX12_reads_0 : decode cX12_reads 0 = .ok (.aload_n 0, 1) := by decide +kernel
theorem dX12_reads_1 : decode cX12_reads 1 = .ok (.getfield 36, 3) := by decide +kernel
theorem dX12_reads_4 : decode cX12_reads 4 = .ok (.ifCond .le 4, 3) := by decide +kernel
theorem dX12_reads_7 : decode cX12_reads 7 = .ok (.return_, 1) := by decide +kernel
theorem dX12_reads_8 : decode cX12_reads 8 = .ok (.aload_n 0, 1) := by decide +kernel
theorem dX12_reads_9 : decode cX12_reads 9 = .ok (.iconst 0, 1) := by decide +kernel
theorem dX12_reads_10 : decode cX12_reads 10 = .ok (.putfield 94, 3) := by decide +kernel
theorem dX12_reads_13 : decode cX12_reads 13 = .ok (.aload_n 0, 1) := by decide +kernel
theorem dX12_reads_14 : decode cX12_reads 14 = .ok (.iconst 0, 1) := by decide +kernel
theorem dX12_reads_15 : decode cX12_reads 15 = .ok (.putfield 97, 3) := by decide +kernel
theorem dX12_reads_18 : decode cX12_reads 18 = .ok (.aload_n 0, 1) := by decide +kernel
theorem dX12_reads_19 : decode cX12_reads 19 = .ok (.iconst 0, 1) := by decide +kernel
theorem dX12_reads_20 : decode cX12_reads 20 = .ok (.putfield 103, 3) := by decide +kernel
theorem dX12_reads_23 : decode cX12_reads 23 = .ok (.aload_n 0, 1) := by decide +kernel
theorem dX12_reads_24 : decode cX12_reads 24 = .ok (.iconst 0, 1) := by decide +kernel
theorem dX12_reads_25 : decode cX12_reads 25 = .ok (.putfield 106, 3) := by decide +kernel
theorem dX12_reads_28 : decode cX12_reads 28 = .ok (.aload_n 0, 1) := by decide +kernel
theorem dX12_reads_29 : decode cX12_reads 29 = .ok (.iload_n 1, 1) := by decide +kernel
theorem dX12_reads_30 : decode cX12_reads 30 = .ok (.ifCond .eq 7, 3) := by decide +kernel
theorem dX12_reads_33 : decode cX12_reads 33 = .ok (.iconst 1, 1) := by decide +kernel
theorem dX12_reads_34 : decode cX12_reads 34 = .ok (.goto 4, 3) := by decide +kernel
theorem dX12_reads_37 : decode cX12_reads 37 = .ok (.iconst 0, 1) := by decide +kernel
theorem dX12_reads_38 : decode cX12_reads 38 = .ok (.invokevirtual 323, 3) := by decide +kernel
theorem dX12_reads_41 : decode cX12_reads 41 = .ok (.iconst 1, 1) := by decide +kernel
theorem dX12_reads_42 : decode cX12_reads 42 = .ok (.istore_n 2, 1) := by decide +kernel
theorem dX12_reads_43 : decode cX12_reads 43 = .ok (.iload_n 2, 1) := by decide +kernel
theorem dX12_reads_44 : decode cX12_reads 44 = .ok (.ifCond .eq 46, 3) := by decide +kernel
theorem dX12_reads_47 : decode cX12_reads 47 = .ok (.aload_n 0, 1) := by decide +kernel
theorem dX12_reads_48 : decode cX12_reads 48 = .ok (.getfield 106, 3) := by decide +kernel
theorem dX12_reads_51 : decode cX12_reads 51 = .ok (.ifCond .ne 14, 3) := by decide +kernel
theorem dX12_reads_54 : decode cX12_reads 54 = .ok (.aload_n 0, 1) := by decide +kernel
theorem dX12_reads_55 : decode cX12_reads 55 = .ok (.aload_n 0, 1) := by decide +kernel
theorem dX12_reads_56 : decode cX12_reads 56 = .ok (.invokevirtual 342, 3) := by decide +kernel
theorem dX12_reads_59 : decode cX12_reads 59 = .ok (.putfield 106, 3) := by decide +kernel
theorem dX12_reads_62 : decode cX12_reads 62 = .ok (.goto 8, 3) := by decide +kernel
theorem dX12_reads_65 : decode cX12_reads 65 = .ok (.aload_n 0, 1) := by decide +kernel
theorem dX12_reads_66 : decode cX12_reads 66 = .ok (.invokevirtual 345, 3) := by decide +kernel
theorem dX12_reads_69 : decode cX12_reads 69 = .ok (.istore_n 2, 1) := by decide +kernel
theorem dX12_reads_70 : decode cX12_reads 70 = .ok (.iload_n 2, 1) := by decide +kernel
theorem dX12_reads_71 : decode cX12_reads 71 = .ok (.ifCond .eq 14, 3) := by decide +kernel
theorem dX12_reads_74 : decode cX12_reads 74 = .ok (.aload_n 0, 1) := by decide +kernel
theorem dX12_reads_75 : decode cX12_reads 75 = .ok (.getfield 36, 3) := by decide +kernel
theorem dX12_reads_78 : decode cX12_reads 78 = .ok (.ifCond .ne 7, 3) := by decide +kernel
theorem dX12_reads_81 : decode cX12_reads 81 = .ok (.iconst 1, 1) := by decide +kernel
theorem dX12_reads_82 : decode cX12_reads 82 = .ok (.goto 4, 3) := by decide +kernel
theorem dX12_reads_85 : decode cX12_reads 85 = .ok (.iconst 0, 1) := by decide +kernel
theorem dX12_reads_86 : decode cX12_reads 86 = .ok (.istore_n 2, 1) := by decide +kernel
theorem dX12_reads_87 : decode cX12_reads 87 = .ok (.goto (-44), 3) := by decide +kernel
theorem dX12_reads_90 : decode cX12_reads 90 = .ok (.return_, 1) := by decide +kernel
abbrev MX12_reads : MI := (RX12, cX12_reads, 3, 5, false)
def lcX12_reads_1 : Ex Bool := (ne0 (lvI 2))
def lbX12_reads_1 : St := (seqS (ifeS (notX (ne0 (getI 12 31 (lvR 0)))) (putZ 12 31 (lvR 0) (calX decI (ckV 12 0) mX12_operand (agC va_rf (lvR 0) agN))) (lsI 2 (calX decI (ckV 12 0) mX12_goesOn (agC va_rf (lvR 0) agN)))) (lsI 2 (iteX (andX (ne0 (lvI 2)) (eq0 (getI 12 8 (lvR 0)))) (ciI (iI 1)) (ciI (iI 0)))))
def bX12_reads : St := (seqS (ifS (gt0 (getI 12 8 (lvR 0))) retV) (seqS (putI 12 27 (lvR 0) (ciI (iI 0))) (seqS (putI 12 28 (lvR 0) (ciI (iI 0))) (seqS (putI 12 30 (lvR 0) (ciI (iI 0))) (seqS (putZ 12 31 (lvR 0) (ciI (iI 0))) (seqS (calS (ckV 12 1) mX12_pushes (agC va_rf (lvR 0) (agC Value.int (iteX (ne0 (lvI 1)) (ciI (iI 1)) (ciI (iI 0))) agN))) (seqS (lsI 2 (ciI (iI 1))) (seqS (whileS lcX12_reads_1 lbX12_reads_1) retV))))))))
theorem jX12_reads : JS MX12_reads 0 0 0 91 [] bX12_reads :=
  (JS.seq (pc1 := 8) (JS.iff (l := 8) (pc1 := 7) (CJ.gt0_f (tgt := 8) (pc1 := 4) (JX.getI (pc1 := 1) (c := 12) (k := 8) (i := 36) (JX.al (k := 0) rfl dX12_reads_0) cl12 (by decide) rfl fk12_36 dX12_reads_1) dX12_reads_4 rfl) (JS.retV dX12_reads_7) (Or.inl rfl)) (JS.seq (pc1 := 13) (JS.pI (pc1 := 9) (pc2 := 10) (c := 12) (k := 27) (i := 94) (JX.al (k := 0) rfl dX12_reads_8) (JX.ic (n := 0) rfl dX12_reads_9) cl12 (by decide) rfl fk12_94 (Or.inl rfl) dX12_reads_10) (JS.seq (pc1 := 18) (JS.pI (pc1 := 14) (pc2 := 15) (c := 12) (k := 28) (i := 97) (JX.al (k := 0) rfl dX12_reads_13) (JX.ic (n := 0) rfl dX12_reads_14) cl12 (by decide) rfl fk12_97 (Or.inl rfl) dX12_reads_15) (JS.seq (pc1 := 23) (JS.pI (pc1 := 19) (pc2 := 20) (c := 12) (k := 30) (i := 103) (JX.al (k := 0) rfl dX12_reads_18) (JX.ic (n := 0) rfl dX12_reads_19) cl12 (by decide) rfl fk12_103 (Or.inl rfl) dX12_reads_20) (JS.seq (pc1 := 28) (JS.pZ (pc1 := 24) (pc2 := 25) (c := 12) (k := 31) (i := 106) (JX.al (k := 0) rfl dX12_reads_23) (JX.ic (n := 0) rfl dX12_reads_24) cl12 (by decide) rfl fk12_106 (Or.inl rfl) dX12_reads_25) (JS.seq (pc1 := 41) (JS.call (pc1 := 38) (JA.r (JX.al (k := 0) rfl dX12_reads_28) (JA.i (JX.ite (l := 37) (pc1 := 33) (pc2 := 34) (pc3 := 38) (lend := 38) (CJ.ne0_f (tgt := 37) (pc1 := 30) (JX.il (k := 1) rfl dX12_reads_29) dX12_reads_30 rfl) (JX.ic (n := 1) rfl dX12_reads_33) dX12_reads_34 rfl (JX.ic (n := 0) rfl dX12_reads_37) (Or.inl rfl)) JA.nil)) aX12_pushes (RunK.V (i := 323) (c := 12) (n := 1) cl12 rfl (CN nX12_pushes (by decide) (by decide)) gw1634 gw1636 gs73 dX12_reads_38)) (JS.seq (pc1 := 43) (JS.is (pc1 := 42) (k := 2) (JX.ic (n := 1) rfl dX12_reads_41) rfl (show 2 < 3 by decide) dX12_reads_42) (JS.seq (pc1 := 90) (JS.while (l := 90) (lb := 90) (pc1 := 47) (pc2 := 87) (pc3 := 90) (CJ.ne0_f (tgt := 90) (pc1 := 44) (JX.il (k := 2) rfl dX12_reads_43) dX12_reads_44 rfl) (JS.seq (pc1 := 70) (JS.ife (l := 65) (lend := 70) (pc1 := 54) (pc2 := 62) (pc3 := 70) (CJ.not_f (CJ.ne0_t (tgt := 65) (pc1 := 51) (JX.getI (pc1 := 48) (c := 12) (k := 31) (i := 106) (JX.al (k := 0) rfl dX12_reads_47) cl12 (by decide) rfl fk12_106 dX12_reads_48) dX12_reads_51 rfl)) (JS.pZ (pc1 := 55) (pc2 := 59) (c := 12) (k := 31) (i := 106) (JX.al (k := 0) rfl dX12_reads_54) (JX.call (pc1 := 56) decI_ok (JA.r (JX.al (k := 0) rfl dX12_reads_55) JA.nil) aX12_operand (RunK.V (i := 342) (c := 12) (n := 0) cl12 rfl (CN nX12_operand (by decide) (by decide)) gw1638 gw1640 gs74 dX12_reads_56) (by decide)) cl12 (by decide) rfl fk12_106 (Or.inl rfl) dX12_reads_59) dX12_reads_62 rfl (JS.is (pc1 := 69) (k := 2) (JX.call (pc1 := 66) decI_ok (JA.r (JX.al (k := 0) rfl dX12_reads_65) JA.nil) aX12_goesOn (RunK.V (i := 345) (c := 12) (n := 0) cl12 rfl (CN nX12_goesOn (by decide) (by decide)) gw1671 gw1673 gs78 dX12_reads_66) (by decide)) rfl (show 2 < 3 by decide) dX12_reads_69) (Or.inl rfl)) (JS.is (pc1 := 86) (k := 2) (JX.ite (l := 85) (pc1 := 81) (pc2 := 82) (pc3 := 86) (lend := 86) (CJ.and_f (pc1 := 74) (CJ.ne0_f (tgt := 85) (pc1 := 71) (JX.il (k := 2) rfl dX12_reads_70) dX12_reads_71 rfl) (CJ.eq0_f (tgt := 85) (pc1 := 78) (JX.getI (pc1 := 75) (c := 12) (k := 8) (i := 36) (JX.al (k := 0) rfl dX12_reads_74) cl12 (by decide) rfl fk12_36 dX12_reads_75) dX12_reads_78 rfl)) (JX.ic (n := 1) rfl dX12_reads_81) dX12_reads_82 rfl (JX.ic (n := 0) rfl dX12_reads_85) (Or.inl rfl)) rfl (show 2 < 3 by decide) dX12_reads_86)) dX12_reads_87 rfl (Or.inl rfl) (Or.inl rfl)) (JS.retV dX12_reads_90)))))))))
def mX12_reads : MS := runM 3 none bX12_reads
theorem aX12_reads : MA yX12_reads cX12_reads 3 none 5 mX12_reads := MA.of (plainFor_of_name (by decide)) jX12_reads
theorem eX12_reads (a0 : Nat) (a1 : Int32) (h : AH) : mX12_reads [.ref a0, .int a1] h = (bX12_reads [.val (.ref a0), .val (.int a1), .unset] h).bind (finM none) := rfl
/-! PieceStoreModel.isCounted -/
theorem dX12_isCounted_0 : decode cX12_isCounted 0 = .ok (.aload_n 0, 1) := by decide +kernel
theorem dX12_isCounted_1 : decode cX12_isCounted 1 = .ok (.getfield 36, 3) := by decide +kernel
theorem dX12_isCounted_4 : decode cX12_isCounted 4 = .ok (.ifCond .ne 17, 3) := by decide +kernel
theorem dX12_isCounted_7 : decode cX12_isCounted 7 = .ok (.iload_n 1, 1) := by decide +kernel
theorem dX12_isCounted_8 : decode cX12_isCounted 8 = .ok (.ifCond .eq 13, 3) := by decide +kernel
theorem dX12_isCounted_11 : decode cX12_isCounted 11 = .ok (.aload_n 0, 1) := by decide +kernel
theorem dX12_isCounted_12 : decode cX12_isCounted 12 = .ok (.bipush 6, 2) := by decide +kernel
theorem dX12_isCounted_14 : decode cX12_isCounted 14 = .ok (.aload_n 0, 1) := by decide +kernel
theorem dX12_isCounted_15 : decode cX12_isCounted 15 = .ok (.getfield 23, 3) := by decide +kernel
theorem dX12_isCounted_18 : decode cX12_isCounted 18 = .ok (.invokevirtual 235, 3) := by decide +kernel
theorem dX12_isCounted_21 : decode cX12_isCounted 21 = .ok (.aload_n 0, 1) := by decide +kernel
theorem dX12_isCounted_22 : decode cX12_isCounted 22 = .ok (.getfield 36, 3) := by decide +kernel
theorem dX12_isCounted_25 : decode cX12_isCounted 25 = .ok (.ifCond .ne 7, 3) := by decide +kernel
theorem dX12_isCounted_28 : decode cX12_isCounted 28 = .ok (.aload_n 0, 1) := by decide +kernel
theorem dX12_isCounted_29 : decode cX12_isCounted 29 = .ok (.invokevirtual 252, 3) := by decide +kernel
theorem dX12_isCounted_32 : decode cX12_isCounted 32 = .ok (.aload_n 0, 1) := by decide +kernel
theorem dX12_isCounted_33 : decode cX12_isCounted 33 = .ok (.getfield 36, 3) := by decide +kernel
theorem dX12_isCounted_36 : decode cX12_isCounted 36 = .ok (.ifCond .ne 7, 3) := by decide +kernel
theorem dX12_isCounted_39 : decode cX12_isCounted 39 = .ok (.iconst 1, 1) := by decide +kernel
theorem dX12_isCounted_40 : decode cX12_isCounted 40 = .ok (.goto 4, 3) := by decide +kernel
theorem dX12_isCounted_43 : decode cX12_isCounted 43 = .ok (.iconst 0, 1) := by decide +kernel
theorem dX12_isCounted_44 : decode cX12_isCounted 44 = .ok (.ireturn, 1) := by decide +kernel
abbrev MX12_isCounted : MI := (RX12, cX12_isCounted, 2, 3, false)
def bX12_isCounted : St := (seqS (ifS (andX (eq0 (getI 12 8 (lvR 0))) (ne0 (lvI 1))) (calS (ckV 12 2) mX12_blame (agC va_rf (lvR 0) (agC Value.int (ciI (iI 6)) (agC Value.int (getI 12 4 (lvR 0)) agN))))) (seqS (ifS (eq0 (getI 12 8 (lvR 0))) (calS (ckV 12 0) mX12_ahead (agC va_rf (lvR 0) agN))) (retI (iteX (eq0 (getI 12 8 (lvR 0))) (ciI (iI 1)) (ciI (iI 0))))))
theorem jX12_isCounted : JS MX12_isCounted 0 0 0 45 [] bX12_isCounted :=
  (JS.seq (pc1 := 21) (JS.iff (l := 21) (pc1 := 11) (CJ.and_f (pc1 := 7) (CJ.eq0_f (tgt := 21) (pc1 := 4) (JX.getI (pc1 := 1) (c := 12) (k := 8) (i := 36) (JX.al (k := 0) rfl dX12_isCounted_0) cl12 (by decide) rfl fk12_36 dX12_isCounted_1) dX12_isCounted_4 rfl) (CJ.ne0_f (tgt := 21) (pc1 := 8) (JX.il (k := 1) rfl dX12_isCounted_7) dX12_isCounted_8 rfl)) (JS.call (pc1 := 18) (JA.r (JX.al (k := 0) rfl dX12_isCounted_11) (JA.i (JX.bp (n := 6) kb6 dX12_isCounted_12) (JA.i (JX.getI (pc1 := 15) (c := 12) (k := 4) (i := 23) (JX.al (k := 0) rfl dX12_isCounted_14) cl12 (by decide) rfl fk12_23 dX12_isCounted_15) JA.nil))) aX12_blame (RunK.V (i := 235) (c := 12) (n := 2) cl12 rfl (CN nX12_blame (by decide) (by decide)) gw1577 gw1579 gs62 dX12_isCounted_18)) (Or.inl rfl)) (JS.seq (pc1 := 32) (JS.iff (l := 32) (pc1 := 28) (CJ.eq0_f (tgt := 32) (pc1 := 25) (JX.getI (pc1 := 22) (c := 12) (k := 8) (i := 36) (JX.al (k := 0) rfl dX12_isCounted_21) cl12 (by decide) rfl fk12_36 dX12_isCounted_22) dX12_isCounted_25 rfl) (JS.call (pc1 := 29) (JA.r (JX.al (k := 0) rfl dX12_isCounted_28) JA.nil) aX12_ahead (RunK.V (i := 252) (c := 12) (n := 0) cl12 rfl (CN nX12_ahead (by decide) (by decide)) gw1554 gw1556 gs58 dX12_isCounted_29)) (Or.inl rfl)) (JS.retI (pc1 := 44) (JX.ite (l := 43) (pc1 := 39) (pc2 := 40) (pc3 := 44) (lend := 44) (CJ.eq0_f (tgt := 43) (pc1 := 36) (JX.getI (pc1 := 33) (c := 12) (k := 8) (i := 36) (JX.al (k := 0) rfl dX12_isCounted_32) cl12 (by decide) rfl fk12_36 dX12_isCounted_33) dX12_isCounted_36 rfl) (JX.ic (n := 1) rfl dX12_isCounted_39) dX12_isCounted_40 rfl (JX.ic (n := 0) rfl dX12_isCounted_43) (Or.inl rfl)) dX12_isCounted_44)))
def mX12_isCounted : MS := runM 2 (some (.boolean)) bX12_isCounted
theorem aX12_isCounted : MA yX12_isCounted cX12_isCounted 2 (some (.boolean)) 3 mX12_isCounted := MA.of (plainFor_of_name (by decide)) jX12_isCounted
theorem eX12_isCounted (a0 : Nat) (a1 : Int32) (h : AH) : mX12_isCounted [.ref a0, .int a1] h = (bX12_isCounted [.val (.ref a0), .val (.int a1)] h).bind (finM (some (.boolean))) := rfl
/-! PieceStoreModel.mustWord -/
theorem dX12_mustWord_0 : decode cX12_mustWord 0 = .ok (.aload_n 0, 1) := by decide +kernel
theorem dX12_mustWord_1 : decode cX12_mustWord 1 = .ok (.invokevirtual 246, 3) := by decide +kernel
theorem dX12_mustWord_4 : decode cX12_mustWord 4 = .ok (.aload_n 0, 1) := by decide +kernel
theorem dX12_mustWord_5 : decode cX12_mustWord 5 = .ok (.getfield 36, 3) := by decide +kernel
theorem dX12_mustWord_8 : decode cX12_mustWord 8 = .ok (.ifCond .le 4, 3) := by decide +kernel
theorem dX12_mustWord_11 : decode cX12_mustWord 11 = .ok (.return_, 1) := by decide +kernel
theorem dX12_mustWord_12 : decode cX12_mustWord 12 = .ok (.aload_n 0, 1) := by decide +kernel
theorem dX12_mustWord_13 : decode cX12_mustWord 13 = .ok (.lload_n 1, 1) := by decide +kernel
theorem dX12_mustWord_14 : decode cX12_mustWord 14 = .ok (.invokevirtual 329, 3) := by decide +kernel
theorem dX12_mustWord_17 : decode cX12_mustWord 17 = .ok (.ifCond .ne 12, 3) := by decide +kernel
theorem dX12_mustWord_20 : decode cX12_mustWord 20 = .ok (.aload_n 0, 1) := by decide +kernel
theorem dX12_mustWord_21 : decode cX12_mustWord 21 = .ok (.iconst 1, 1) := by decide +kernel
theorem dX12_mustWord_22 : decode cX12_mustWord 22 = .ok (.aload_n 0, 1) := by decide +kernel
theorem dX12_mustWord_23 : decode cX12_mustWord 23 = .ok (.getfield 23, 3) := by decide +kernel
theorem dX12_mustWord_26 : decode cX12_mustWord 26 = .ok (.invokevirtual 235, 3) := by decide +kernel
theorem dX12_mustWord_29 : decode cX12_mustWord 29 = .ok (.aload_n 0, 1) := by decide +kernel
theorem dX12_mustWord_30 : decode cX12_mustWord 30 = .ok (.getfield 36, 3) := by decide +kernel
theorem dX12_mustWord_33 : decode cX12_mustWord 33 = .ok (.ifCond .ne 7, 3) := by decide +kernel
theorem dX12_mustWord_36 : decode cX12_mustWord 36 = .ok (.aload_n 0, 1) := by decide +kernel
theorem dX12_mustWord_37 : decode cX12_mustWord 37 = .ok (.invokevirtual 252, 3) := by decide +kernel
theorem dX12_mustWord_40 : decode cX12_mustWord 40 = .ok (.return_, 1) := by decide +kernel
abbrev MX12_mustWord : MI := (RX12, cX12_mustWord, 3, 3, false)
def bX12_mustWord : St := (seqS (calS (ckV 12 0) mX12_lex (agC va_rf (lvR 0) agN)) (seqS (ifS (gt0 (getI 12 8 (lvR 0))) retV) (seqS (ifS (notX (ne0 (calX decI (ckV 12 1) mX12_isWord (agC va_rf (lvR 0) (agC Value.long (lvL 1) agN))))) (calS (ckV 12 2) mX12_blame (agC va_rf (lvR 0) (agC Value.int (ciI (iI 1)) (agC Value.int (getI 12 4 (lvR 0)) agN))))) (seqS (ifS (eq0 (getI 12 8 (lvR 0))) (calS (ckV 12 0) mX12_ahead (agC va_rf (lvR 0) agN))) retV))))
theorem jX12_mustWord : JS MX12_mustWord 0 0 0 41 [] bX12_mustWord :=
  (JS.seq (pc1 := 4) (JS.call (pc1 := 1) (JA.r (JX.al (k := 0) rfl dX12_mustWord_0) JA.nil) aX12_lex (RunK.V (i := 246) (c := 12) (n := 0) cl12 rfl (CN nX12_lex (by decide) (by decide)) gw1573 gw1575 gs61 dX12_mustWord_1)) (JS.seq (pc1 := 12) (JS.iff (l := 12) (pc1 := 11) (CJ.gt0_f (tgt := 12) (pc1 := 8) (JX.getI (pc1 := 5) (c := 12) (k := 8) (i := 36) (JX.al (k := 0) rfl dX12_mustWord_4) cl12 (by decide) rfl fk12_36 dX12_mustWord_5) dX12_mustWord_8 rfl) (JS.retV dX12_mustWord_11) (Or.inl rfl)) (JS.seq (pc1 := 29) (JS.iff (l := 29) (pc1 := 20) (CJ.not_f (CJ.ne0_t (tgt := 29) (pc1 := 17) (JX.call (pc1 := 14) decI_ok (JA.r (JX.al (k := 0) rfl dX12_mustWord_12) (JA.l (JX.ll (k := 1) rfl dX12_mustWord_13) JA.nil)) aX12_isWord (RunK.V (i := 329) (c := 12) (n := 1) cl12 rfl (CN nX12_isWord (by decide) (by decide)) gw1581 gw1583 gs63 dX12_mustWord_14) (by decide)) dX12_mustWord_17 rfl)) (JS.call (pc1 := 26) (JA.r (JX.al (k := 0) rfl dX12_mustWord_20) (JA.i (JX.ic (n := 1) rfl dX12_mustWord_21) (JA.i (JX.getI (pc1 := 23) (c := 12) (k := 4) (i := 23) (JX.al (k := 0) rfl dX12_mustWord_22) cl12 (by decide) rfl fk12_23 dX12_mustWord_23) JA.nil))) aX12_blame (RunK.V (i := 235) (c := 12) (n := 2) cl12 rfl (CN nX12_blame (by decide) (by decide)) gw1577 gw1579 gs62 dX12_mustWord_26)) (Or.inl rfl)) (JS.seq (pc1 := 40) (JS.iff (l := 40) (pc1 := 36) (CJ.eq0_f (tgt := 40) (pc1 := 33) (JX.getI (pc1 := 30) (c := 12) (k := 8) (i := 36) (JX.al (k := 0) rfl dX12_mustWord_29) cl12 (by decide) rfl fk12_36 dX12_mustWord_30) dX12_mustWord_33 rfl) (JS.call (pc1 := 37) (JA.r (JX.al (k := 0) rfl dX12_mustWord_36) JA.nil) aX12_ahead (RunK.V (i := 252) (c := 12) (n := 0) cl12 rfl (CN nX12_ahead (by decide) (by decide)) gw1554 gw1556 gs58 dX12_mustWord_37)) (Or.inl rfl)) (JS.retV dX12_mustWord_40)))))
def mX12_mustWord : MS := runM 3 none bX12_mustWord
theorem aX12_mustWord : MA yX12_mustWord cX12_mustWord 3 none 3 mX12_mustWord := MA.of (plainFor_of_name (by decide)) jX12_mustWord
theorem eX12_mustWord (a0 : Nat) (a1 : Int64) (h : AH) : mX12_mustWord [.ref a0, .long a1] h = (bX12_mustWord [.val (.ref a0), .val (.long a1), .second] h).bind (finM none) := rfl
/-! PieceStoreModel.boxing -/
theorem dX12_boxing_0 : decode cX12_boxing 0 = .ok (.aload_n 0, 1) := by decide +kernel
theorem dX12_boxing_1 : decode cX12_boxing 1 = .ok (.ldc2_w 255, 3) := by decide +kernel
theorem dX12_boxing_4 : decode cX12_boxing 4 = .ok (.invokevirtual 348, 3) := by decide +kernel
theorem dX12_boxing_7 : decode cX12_boxing 7 = .ok (.aload_n 0, 1) := by decide +kernel
theorem dX12_boxing_8 : decode cX12_boxing 8 = .ok (.getfield 54, 3) := by decide +kernel
theorem dX12_boxing_11 : decode cX12_boxing 11 = .ok (.bipush 10, 2) := by decide +kernel
theorem dX12_boxing_13 : decode cX12_boxing 13 = .ok (.aload_n 0, 1) := by decide +kernel
theorem dX12_boxing_14 : decode cX12_boxing 14 = .ok (.getfield 72, 3) := by decide +kernel
theorem dX12_boxing_17 : decode cX12_boxing 17 = .ok (.imul, 1) := by decide +kernel
theorem dX12_boxing_18 : decode cX12_boxing 18 = .ok (.iconst 0, 1) := by decide +kernel
theorem dX12_boxing_19 : decode cX12_boxing 19 = .ok (.iadd, 1) := by decide +kernel
theorem dX12_boxing_20 : decode cX12_boxing 20 = .ok (.aload_n 0, 1) := by decide +kernel
theorem dX12_boxing_21 : decode cX12_boxing 21 = .ok (.bipush 60, 2) := by decide +kernel
theorem dX12_boxing_23 : decode cX12_boxing 23 = .ok (.sipush 200, 3) := by decide +kernel
theorem dX12_boxing_26 : decode cX12_boxing 26 = .ok (.invokevirtual 352, 3) := by decide +kernel
theorem dX12_boxing_29 : decode cX12_boxing 29 = .ok (.iastore, 1) := by decide +kernel
theorem dX12_boxing_30 : decode cX12_boxing 30 = .ok (.return_, 1) := by decide +kernel
abbrev MX12_boxing : MI := (RX12, cX12_boxing, 1, 4, false)
def bX12_boxing : St := (seqS (calS (ckV 12 1) mX12_mustWord (agC va_rf (lvR 0) (agC Value.long (clL (lI 6451064)) agN))) (seqS (astI (getR 12 14 (lvR 0)) (addI (mulI (ciI (iI 10)) (getI 12 20 (lvR 0))) (ciI (iI 0))) (calX decI (ckV 12 2) mX12_number (agC va_rf (lvR 0) (agC Value.int (ciI (iI 60)) (agC Value.int (ciI (iI 200)) agN))))) retV))
theorem jX12_boxing : JS MX12_boxing 0 0 0 31 [] bX12_boxing :=
  (JS.seq (pc1 := 7) (JS.call (pc1 := 4) (JA.r (JX.al (k := 0) rfl dX12_boxing_0) (JA.l (JX.ld2K (i := 255) (by decide) gw1568 dX12_boxing_1) JA.nil)) aX12_mustWord (RunK.V (i := 348) (c := 12) (n := 1) cl12 rfl (CN nX12_mustWord (by decide) (by decide)) gw1569 gw1571 gs60 dX12_boxing_4)) (JS.seq (pc1 := 30) (JS.ia (pc1 := 11) (pc2 := 20) (pc3 := 29) (JX.getR (pc1 := 8) (c := 12) (k := 14) (i := 54) (JX.al (k := 0) rfl dX12_boxing_7) cl12 (by decide) rfl fk12_54 dX12_boxing_8) (JX.iadd (pc1 := 18) (pc2 := 19) (JX.imul (pc1 := 13) (pc2 := 17) (JX.bp (n := 10) kb10 dX12_boxing_11) (JX.getI (pc1 := 14) (c := 12) (k := 20) (i := 72) (JX.al (k := 0) rfl dX12_boxing_13) cl12 (by decide) rfl fk12_72 dX12_boxing_14) dX12_boxing_17) (JX.ic (n := 0) rfl dX12_boxing_18) dX12_boxing_19) (JX.call (pc1 := 26) decI_ok (JA.r (JX.al (k := 0) rfl dX12_boxing_20) (JA.i (JX.bp (n := 60) kb60 dX12_boxing_21) (JA.i (JX.sp (n := 200) ks200 dX12_boxing_23) JA.nil))) aX12_number (RunK.V (i := 352) (c := 12) (n := 2) cl12 rfl (CN nX12_number (by decide) (by decide)) gw1585 gw1587 gs64 dX12_boxing_26) (by decide)) dX12_boxing_29) (JS.retV dX12_boxing_30)))
def mX12_boxing : MS := runM 1 none bX12_boxing
theorem aX12_boxing : MA yX12_boxing cX12_boxing 1 none 4 mX12_boxing := MA.of (plainFor_of_name (by decide)) jX12_boxing
theorem eX12_boxing (a0 : Nat) (h : AH) : mX12_boxing [.ref a0] h = (bX12_boxing [.val (.ref a0)] h).bind (finM none) := rfl
/-! PieceStoreModel.telling -/
theorem dX12_telling_0 : decode cX12_telling 0 = .ok (.aload_n 0, 1) := by decide +kernel
theorem dX12_telling_1 : decode cX12_telling 1 = .ok (.iconst 0, 1) := by decide +kernel
theorem dX12_telling_2 : decode cX12_telling 2 = .ok (.invokevirtual 356, 3) := by decide +kernel
theorem dX12_telling_5 : decode cX12_telling 5 = .ok (.ifCond .ne 4, 3) := by decide +kernel
theorem dX12_telling_8 : decode cX12_telling 8 = .ok (.return_, 1) := by decide +kernel
theorem dX12_telling_9 : decode cX12_telling 9 = .ok (.aload_n 0, 1) := by decide +kernel
theorem dX12_telling_10 : decode cX12_telling 10 = .ok (.iload_n 2, 1) := by decide +kernel
theorem dX12_telling_11 : decode cX12_telling 11 = .ok (.iload_n 3, 1) := by decide +kernel
theorem dX12_telling_12 : decode cX12_telling 12 = .ok (.invokevirtual 352, 3) := by decide +kernel
theorem dX12_telling_15 : decode cX12_telling 15 = .ok (.istore 4, 2) := by decide +kernel
theorem dX12_telling_17 : decode cX12_telling 17 = .ok (.aload_n 0, 1) := by decide +kernel
theorem dX12_telling_18 : decode cX12_telling 18 = .ok (.getfield 36, 3) := by decide +kernel
theorem dX12_telling_21 : decode cX12_telling 21 = .ok (.ifCond .ne 19, 3) := by decide +kernel
theorem dX12_telling_24 : decode cX12_telling 24 = .ok (.aload_n 0, 1) := by decide +kernel
theorem dX12_telling_25 : decode cX12_telling 25 = .ok (.getfield 54, 3) := by decide +kernel
theorem dX12_telling_28 : decode cX12_telling 28 = .ok (.bipush 10, 2) := by decide +kernel
theorem dX12_telling_30 : decode cX12_telling 30 = .ok (.aload_n 0, 1) := by decide +kernel
theorem dX12_telling_31 : decode cX12_telling 31 = .ok (.getfield 72, 3) := by decide +kernel
theorem dX12_telling_34 : decode cX12_telling 34 = .ok (.imul, 1) := by decide +kernel
theorem dX12_telling_35 : decode cX12_telling 35 = .ok (.iload_n 1, 1) := by decide +kernel
theorem dX12_telling_36 : decode cX12_telling 36 = .ok (.iadd, 1) := by decide +kernel
theorem dX12_telling_37 : decode cX12_telling 37 = .ok (.iload 4, 2) := by decide +kernel
theorem dX12_telling_39 : decode cX12_telling 39 = .ok (.iastore, 1) := by decide +kernel
theorem dX12_telling_40 : decode cX12_telling 40 = .ok (.return_, 1) := by decide +kernel
abbrev MX12_telling : MI := (RX12, cX12_telling, 5, 4, false)
def bX12_telling : St := (seqS (ifS (notX (ne0 (calX decI (ckV 12 1) mX12_isCounted (agC va_rf (lvR 0) (agC Value.int (ciI (iI 0)) agN))))) retV) (seqS (lsI 4 (calX decI (ckV 12 2) mX12_number (agC va_rf (lvR 0) (agC Value.int (lvI 2) (agC Value.int (lvI 3) agN))))) (seqS (ifS (eq0 (getI 12 8 (lvR 0))) (astI (getR 12 14 (lvR 0)) (addI (mulI (ciI (iI 10)) (getI 12 20 (lvR 0))) (lvI 1)) (lvI 4))) retV)))
theorem jX12_telling : JS MX12_telling 0 0 0 41 [] bX12_telling :=
  (JS.seq (pc1 := 9) (JS.iff (l := 9) (pc1 := 8) (CJ.not_f (CJ.ne0_t (tgt := 9) (pc1 := 5) (JX.call (pc1 := 2) decI_ok (JA.r (JX.al (k := 0) rfl dX12_telling_0) (JA.i (JX.ic (n := 0) rfl dX12_telling_1) JA.nil)) aX12_isCounted (RunK.V (i := 356) (c := 12) (n := 1) cl12 rfl (CN nX12_isCounted (by decide) (by decide)) gw1613 gw1615 gs70 dX12_telling_2) (by decide)) dX12_telling_5 rfl)) (JS.retV dX12_telling_8) (Or.inl rfl)) (JS.seq (pc1 := 17) (JS.is2 (pc1 := 15) (JX.call (pc1 := 12) decI_ok (JA.r (JX.al (k := 0) rfl dX12_telling_9) (JA.i (JX.il (k := 2) rfl dX12_telling_10) (JA.i (JX.il (k := 3) rfl dX12_telling_11) JA.nil))) aX12_number (RunK.V (i := 352) (c := 12) (n := 2) cl12 rfl (CN nX12_number (by decide) (by decide)) gw1585 gw1587 gs64 dX12_telling_12) (by decide)) (show 4 < 5 by decide) dX12_telling_15) (JS.seq (pc1 := 40) (JS.iff (l := 40) (pc1 := 24) (CJ.eq0_f (tgt := 40) (pc1 := 21) (JX.getI (pc1 := 18) (c := 12) (k := 8) (i := 36) (JX.al (k := 0) rfl dX12_telling_17) cl12 (by decide) rfl fk12_36 dX12_telling_18) dX12_telling_21 rfl) (JS.ia (pc1 := 28) (pc2 := 37) (pc3 := 39) (JX.getR (pc1 := 25) (c := 12) (k := 14) (i := 54) (JX.al (k := 0) rfl dX12_telling_24) cl12 (by decide) rfl fk12_54 dX12_telling_25) (JX.iadd (pc1 := 35) (pc2 := 36) (JX.imul (pc1 := 30) (pc2 := 34) (JX.bp (n := 10) kb10 dX12_telling_28) (JX.getI (pc1 := 31) (c := 12) (k := 20) (i := 72) (JX.al (k := 0) rfl dX12_telling_30) cl12 (by decide) rfl fk12_72 dX12_telling_31) dX12_telling_34) (JX.il (k := 1) rfl dX12_telling_35) dX12_telling_36) (JX.il2 dX12_telling_37) dX12_telling_39) (Or.inl rfl)) (JS.retV dX12_telling_40))))
def mX12_telling : MS := runM 5 none bX12_telling
theorem aX12_telling : MA yX12_telling cX12_telling 5 none 4 mX12_telling := MA.of (plainFor_of_name (by decide)) jX12_telling
theorem eX12_telling (a0 : Nat) (a1 : Int32) (a2 : Int32) (a3 : Int32) (h : AH) : mX12_telling [.ref a0, .int a1, .int a2, .int a3] h = (bX12_telling [.val (.ref a0), .val (.int a1), .val (.int a2), .val (.int a3), .unset] h).bind (finM none) := rfl
/-! PieceStoreModel.reading -/
theorem dX12_reading_0 : decode cX12_reading 0 = .ok (.iconst 3, 1) := by decide +kernel
theorem dX12_reading_1 : decode cX12_reading 1 = .ok (.aload_n 0, 1) := by decide +kernel
theorem dX12_reading_2 : decode cX12_reading 2 = .ok (.getfield 72, 3) := by decide +kernel
theorem dX12_reading_5 : decode cX12_reading 5 = .ok (.imul, 1) := by decide +kernel
theorem dX12_reading_6 : decode cX12_reading 6 = .ok (.iload_n 1, 1) := by decide +kernel
theorem dX12_reading_7 : decode cX12_reading 7 = .ok (.iadd, 1) := by decide +kernel
theorem dX12_reading_8 : decode cX12_reading 8 = .ok (.istore_n 2, 1) := by decide +kernel
theorem dX12_reading_9 : decode cX12_reading 9 = .ok (.aload_n 0, 1) := by decide +kernel
theorem dX12_reading_10 : decode cX12_reading 10 = .ok (.aload_n 0, 1) := by decide +kernel
theorem dX12_reading_11 : decode cX12_reading 11 = .ok (.getfield 57, 3) := by decide +kernel
theorem dX12_reading_14 : decode cX12_reading 14 = .ok (.iload_n 2, 1) := by decide +kernel
theorem dX12_reading_15 : decode cX12_reading 15 = .ok (.iaload, 1) := by decide +kernel
theorem dX12_reading_16 : decode cX12_reading 16 = .ok (.iconst (-1), 1) := by decide +kernel
theorem dX12_reading_17 : decode cX12_reading 17 = .ok (.if_icmp .eq 7, 3) := by decide +kernel
theorem dX12_reading_20 : decode cX12_reading 20 = .ok (.iconst 1, 1) := by decide +kernel
theorem dX12_reading_21 : decode cX12_reading 21 = .ok (.goto 4, 3) := by decide +kernel
theorem dX12_reading_24 : decode cX12_reading 24 = .ok (.iconst 0, 1) := by decide +kernel
theorem dX12_reading_25 : decode cX12_reading 25 = .ok (.invokevirtual 356, 3) := by decide +kernel
theorem dX12_reading_28 : decode cX12_reading 28 = .ok (.ifCond .ne 4, 3) := by decide +kernel
theorem dX12_reading_31 : decode cX12_reading 31 = .ok (.return_, 1) := by decide +kernel
theorem dX12_reading_32 : decode cX12_reading 32 = .ok (.aload_n 0, 1) := by decide +kernel
theorem dX12_reading_33 : decode cX12_reading 33 = .ok (.iload_n 1, 1) := by decide +kernel
theorem dX12_reading_34 : decode cX12_reading 34 = .ok (.putfield 75, 3) := by decide +kernel
theorem dX12_reading_37 : decode cX12_reading 37 = .ok (.aload_n 0, 1) := by decide +kernel
theorem dX12_reading_38 : decode cX12_reading 38 = .ok (.getfield 57, 3) := by decide +kernel
theorem dX12_reading_41 : decode cX12_reading 41 = .ok (.iload_n 2, 1) := by decide +kernel
theorem dX12_reading_42 : decode cX12_reading 42 = .ok (.aload_n 0, 1) := by decide +kernel
theorem dX12_reading_43 : decode cX12_reading 43 = .ok (.getfield 69, 3) := by decide +kernel
theorem dX12_reading_46 : decode cX12_reading 46 = .ok (.iastore, 1) := by decide +kernel
theorem dX12_reading_47 : decode cX12_reading 47 = .ok (.aload_n 0, 1) := by decide +kernel
theorem dX12_reading_48 : decode cX12_reading 48 = .ok (.iconst 1, 1) := by decide +kernel
theorem dX12_reading_49 : decode cX12_reading 49 = .ok (.invokevirtual 360, 3) := by decide +kernel
theorem dX12_reading_52 : decode cX12_reading 52 = .ok (.aload_n 0, 1) := by decide +kernel
theorem dX12_reading_53 : decode cX12_reading 53 = .ok (.getfield 60, 3) := by decide +kernel
theorem dX12_reading_56 : decode cX12_reading 56 = .ok (.iload_n 2, 1) := by decide +kernel
theorem dX12_reading_57 : decode cX12_reading 57 = .ok (.aload_n 0, 1) := by decide +kernel
theorem dX12_reading_58 : decode cX12_reading 58 = .ok (.getfield 69, 3) := by decide +kernel
theorem dX12_reading_61 : decode cX12_reading 61 = .ok (.iastore, 1) := by decide +kernel
theorem dX12_reading_62 : decode cX12_reading 62 = .ok (.return_, 1) := by decide +kernel
abbrev MX12_reading : MI := (RX12, cX12_reading, 3, 6, false)
def bX12_reading : St := (seqS (lsI 2 (addI (mulI (ciI (iI 3)) (getI 12 20 (lvR 0))) (lvI 1))) (seqS (ifS (notX (ne0 (calX decI (ckV 12 1) mX12_isCounted (agC va_rf (lvR 0) (agC Value.int (iteX (neI (aldI 2 (getR 12 15 (lvR 0)) (lvI 2)) (ciI (iI (-1)))) (ciI (iI 1)) (ciI (iI 0))) agN))))) retV) (seqS (putI 12 21 (lvR 0) (lvI 1)) (seqS (astI (getR 12 15 (lvR 0)) (lvI 2) (getI 12 19 (lvR 0))) (seqS (calS (ckV 12 1) mX12_reads (agC va_rf (lvR 0) (agC Value.int (ciI (iI 1)) agN))) (seqS (astI (getR 12 16 (lvR 0)) (lvI 2) (getI 12 19 (lvR 0))) retV))))))
theorem jX12_reading : JS MX12_reading 0 0 0 63 [] bX12_reading :=
  (JS.seq (pc1 := 9) (JS.is (pc1 := 8) (k := 2) (JX.iadd (pc1 := 6) (pc2 := 7) (JX.imul (pc1 := 1) (pc2 := 5) (JX.ic (n := 3) rfl dX12_reading_0) (JX.getI (pc1 := 2) (c := 12) (k := 20) (i := 72) (JX.al (k := 0) rfl dX12_reading_1) cl12 (by decide) rfl fk12_72 dX12_reading_2) dX12_reading_5) (JX.il (k := 1) rfl dX12_reading_6) dX12_reading_7) rfl (show 2 < 3 by decide) dX12_reading_8) (JS.seq (pc1 := 32) (JS.iff (l := 32) (pc1 := 31) (CJ.not_f (CJ.ne0_t (tgt := 32) (pc1 := 28) (JX.call (pc1 := 25) decI_ok (JA.r (JX.al (k := 0) rfl dX12_reading_9) (JA.i (JX.ite (l := 24) (pc1 := 20) (pc2 := 21) (pc3 := 25) (lend := 25) (CJ.ne_f (tgt := 24) (pc1 := 16) (pc2 := 17) (JX.iald (pc1 := 14) (pc2 := 15) (JX.getR (pc1 := 11) (c := 12) (k := 15) (i := 57) (JX.al (k := 0) rfl dX12_reading_10) cl12 (by decide) rfl fk12_57 dX12_reading_11) (JX.il (k := 2) rfl dX12_reading_14) dX12_reading_15) (JX.ic (n := (-1)) rfl dX12_reading_16) dX12_reading_17 rfl) (JX.ic (n := 1) rfl dX12_reading_20) dX12_reading_21 rfl (JX.ic (n := 0) rfl dX12_reading_24) (Or.inl rfl)) JA.nil)) aX12_isCounted (RunK.V (i := 356) (c := 12) (n := 1) cl12 rfl (CN nX12_isCounted (by decide) (by decide)) gw1613 gw1615 gs70 dX12_reading_25) (by decide)) dX12_reading_28 rfl)) (JS.retV dX12_reading_31) (Or.inl rfl)) (JS.seq (pc1 := 37) (JS.pI (pc1 := 33) (pc2 := 34) (c := 12) (k := 21) (i := 75) (JX.al (k := 0) rfl dX12_reading_32) (JX.il (k := 1) rfl dX12_reading_33) cl12 (by decide) rfl fk12_75 (Or.inl rfl) dX12_reading_34) (JS.seq (pc1 := 47) (JS.ia (pc1 := 41) (pc2 := 42) (pc3 := 46) (JX.getR (pc1 := 38) (c := 12) (k := 15) (i := 57) (JX.al (k := 0) rfl dX12_reading_37) cl12 (by decide) rfl fk12_57 dX12_reading_38) (JX.il (k := 2) rfl dX12_reading_41) (JX.getI (pc1 := 43) (c := 12) (k := 19) (i := 69) (JX.al (k := 0) rfl dX12_reading_42) cl12 (by decide) rfl fk12_69 dX12_reading_43) dX12_reading_46) (JS.seq (pc1 := 52) (JS.call (pc1 := 49) (JA.r (JX.al (k := 0) rfl dX12_reading_47) (JA.i (JX.ic (n := 1) rfl dX12_reading_48) JA.nil)) aX12_reads (RunK.V (i := 360) (c := 12) (n := 1) cl12 rfl (CN nX12_reads (by decide) (by decide)) gw1630 gw1632 gs72 dX12_reading_49)) (JS.seq (pc1 := 62) (JS.ia (pc1 := 56) (pc2 := 57) (pc3 := 61) (JX.getR (pc1 := 53) (c := 12) (k := 16) (i := 60) (JX.al (k := 0) rfl dX12_reading_52) cl12 (by decide) rfl fk12_60 dX12_reading_53) (JX.il (k := 2) rfl dX12_reading_56) (JX.getI (pc1 := 58) (c := 12) (k := 19) (i := 69) (JX.al (k := 0) rfl dX12_reading_57) cl12 (by decide) rfl fk12_69 dX12_reading_58) dX12_reading_61) (JS.retV dX12_reading_62)))))))
def mX12_reading : MS := runM 3 none bX12_reading
theorem aX12_reading : MA yX12_reading cX12_reading 3 none 6 mX12_reading := MA.of (plainFor_of_name (by decide)) jX12_reading
theorem eX12_reading (a0 : Nat) (a1 : Int32) (h : AH) : mX12_reading [.ref a0, .int a1] h = (bX12_reading [.val (.ref a0), .val (.int a1), .unset] h).bind (finM none) := rfl
/-! PieceStoreModel.statement -/
theorem dX12_statement_0 : decode cX12_statement 0 = .ok (.aload_n 0, 1) := by decide +kernel
theorem dX12_statement_1 : decode cX12_statement 1 = .ok (.invokevirtual 246, 3) := by decide +kernel
theorem dX12_statement_4 : decode cX12_statement 4 = .ok (.aload_n 0, 1) := by decide +kernel
theorem dX12_statement_5 : decode cX12_statement 5 = .ok (.getfield 36, 3) := by decide +kernel
theorem dX12_statement_8 : decode cX12_statement 8 = .ok (.ifCond .le 4, 3) := by decide +kernel
theorem dX12_statement_11 : decode cX12_statement 11 = .ok (.return_, 1) := by decide +kernel
theorem dX12_statement_12 : decode cX12_statement 12 = .ok (.aload_n 0, 1) := by decide +kernel
theorem dX12_statement_13 : decode cX12_statement 13 = .ok (.ldc2_w 257, 3) := by decide +kernel
theorem dX12_statement_16 : decode cX12_statement 16 = .ok (.invokevirtual 329, 3) := by decide +kernel
theorem dX12_statement_19 : decode cX12_statement 19 = .ok (.ifCond .eq 14, 3) := by decide +kernel
theorem dX12_statement_22 : decode cX12_statement 22 = .ok (.aload_n 0, 1) := by decide +kernel
theorem dX12_statement_23 : decode cX12_statement 23 = .ok (.iconst 1, 1) := by decide +kernel
theorem dX12_statement_24 : decode cX12_statement 24 = .ok (.iconst 1, 1) := by decide +kernel
theorem dX12_statement_25 : decode cX12_statement 25 = .ok (.bipush 16, 2) := by decide +kernel
theorem dX12_statement_27 : decode cX12_statement 27 = .ok (.invokevirtual 364, 3) := by decide +kernel
theorem dX12_statement_30 : decode cX12_statement 30 = .ok (.goto 238, 3) := by decide +kernel
theorem dX12_statement_33 : decode cX12_statement 33 = .ok (.aload_n 0, 1) := by decide +kernel
theorem dX12_statement_34 : decode cX12_statement 34 = .ok (.ldc2_w 259, 3) := by decide +kernel
theorem dX12_statement_37 : decode cX12_statement 37 = .ok (.invokevirtual 329, 3) := by decide +kernel
theorem dX12_statement_40 : decode cX12_statement 40 = .ok (.ifCond .eq 14, 3) := by decide +kernel
theorem dX12_statement_43 : decode cX12_statement 43 = .ok (.aload_n 0, 1) := by decide +kernel
theorem dX12_statement_44 : decode cX12_statement 44 = .ok (.iconst 2, 1) := by decide +kernel
theorem dX12_statement_45 : decode cX12_statement 45 = .ok (.iconst 1, 1) := by decide +kernel
theorem dX12_statement_46 : decode cX12_statement 46 = .ok (.bipush 30, 2) := by decide +kernel
theorem dX12_statement_48 : decode cX12_statement 48 = .ok (.invokevirtual 364, 3) := by decide +kernel
theorem dX12_statement_51 : decode cX12_statement 51 = .ok (.goto 217, 3) := by decide +kernel
theorem dX12_statement_54 : decode cX12_statement 54 = .ok (.aload_n 0, 1) := by decide +kernel
theorem dX12_statement_55 : decode cX12_statement 55 = .ok (.ldc2_w 261, 3) := by decide +kernel
theorem dX12_statement_58 : decode cX12_statement 58 = .ok (.invokevirtual 329, 3) := by decide +kernel
theorem dX12_statement_61 : decode cX12_statement 61 = .ok (.ifCond .eq 14, 3) := by decide +kernel
theorem dX12_statement_64 : decode cX12_statement 64 = .ok (.aload_n 0, 1) := by decide +kernel
theorem dX12_statement_65 : decode cX12_statement 65 = .ok (.iconst 3, 1) := by decide +kernel
theorem dX12_statement_66 : decode cX12_statement 66 = .ok (.iconst 1, 1) := by decide +kernel
theorem dX12_statement_67 : decode cX12_statement 67 = .ok (.bipush 60, 2) := by decide +kernel
theorem dX12_statement_69 : decode cX12_statement 69 = .ok (.invokevirtual 364, 3) := by decide +kernel
theorem dX12_statement_72 : decode cX12_statement 72 = .ok (.goto 196, 3) := by decide +kernel
theorem dX12_statement_75 : decode cX12_statement 75 = .ok (.aload_n 0, 1) := by decide +kernel
theorem dX12_statement_76 : decode cX12_statement 76 = .ok (.ldc2_w 263, 3) := by decide +kernel
theorem dX12_statement_79 : decode cX12_statement 79 = .ok (.invokevirtual 329, 3) := by decide +kernel
theorem dX12_statement_82 : decode cX12_statement 82 = .ok (.ifCond .eq 15, 3) := by decide +kernel
theorem dX12_statement_85 : decode cX12_statement 85 = .ok (.aload_n 0, 1) := by decide +kernel
theorem dX12_statement_86 : decode cX12_statement 86 = .ok (.iconst 4, 1) := by decide +kernel
theorem dX12_statement_87 : decode cX12_statement 87 = .ok (.bipush 30, 2) := by decide +kernel
theorem dX12_statement_89 : decode cX12_statement 89 = .ok (.bipush 60, 2) := by decide +kernel
theorem dX12_statement_91 : decode cX12_statement 91 = .ok (.invokevirtual 364, 3) := by decide +kernel
theorem dX12_statement_94 : decode cX12_statement 94 = .ok (.goto 174, 3) := by decide +kernel
theorem dX12_statement_97 : decode cX12_statement 97 = .ok (.aload_n 0, 1) := by decide +kernel
theorem dX12_statement_98 : decode cX12_statement 98 = .ok (.ldc2_w 265, 3) := by decide +kernel
theorem dX12_statement_101 : decode cX12_statement 101 = .ok (.invokevirtual 329, 3) := by decide +kernel
theorem dX12_statement_104 : decode cX12_statement 104 = .ok (.ifCond .eq 14, 3) := by decide +kernel
theorem dX12_statement_107 : decode cX12_statement 107 = .ok (.aload_n 0, 1) := by decide +kernel
theorem dX12_statement_108 : decode cX12_statement 108 = .ok (.iconst 5, 1) := by decide +kernel
theorem dX12_statement_109 : decode cX12_statement 109 = .ok (.iconst 1, 1) := by decide +kernel
theorem dX12_statement_110 : decode cX12_statement 110 = .ok (.bipush 8, 2) := by decide +kernel
theorem dX12_statement_112 : decode cX12_statement 112 = .ok (.invokevirtual 364, 3) := by decide +kernel
theorem dX12_statement_115 : decode cX12_statement 115 = .ok (.goto 153, 3) := by decide +kernel
theorem dX12_statement_118 : decode cX12_statement 118 = .ok (.aload_n 0, 1) := by decide +kernel
theorem dX12_statement_119 : decode cX12_statement 119 = .ok (.ldc2_w 267, 3) := by decide +kernel
theorem dX12_statement_122 : decode cX12_statement 122 = .ok (.invokevirtual 329, 3) := by decide +kernel
theorem dX12_statement_125 : decode cX12_statement 125 = .ok (.ifCond .eq 14, 3) := by decide +kernel
theorem dX12_statement_128 : decode cX12_statement 128 = .ok (.aload_n 0, 1) := by decide +kernel
theorem dX12_statement_129 : decode cX12_statement 129 = .ok (.bipush 6, 2) := by decide +kernel
theorem dX12_statement_131 : decode cX12_statement 131 = .ok (.iconst 0, 1) := by decide +kernel
theorem dX12_statement_132 : decode cX12_statement 132 = .ok (.iconst 4, 1) := by decide +kernel
theorem dX12_statement_133 : decode cX12_statement 133 = .ok (.invokevirtual 364, 3) := by decide +kernel
theorem dX12_statement_136 : decode cX12_statement 136 = .ok (.goto 132, 3) := by decide +kernel
theorem dX12_statement_139 : decode cX12_statement 139 = .ok (.aload_n 0, 1) := by decide +kernel
theorem dX12_statement_140 : decode cX12_statement 140 = .ok (.ldc2_w 269, 3) := by decide +kernel
theorem dX12_statement_143 : decode cX12_statement 143 = .ok (.invokevirtual 329, 3) := by decide +kernel
theorem dX12_statement_146 : decode cX12_statement 146 = .ok (.ifCond .eq 15, 3) := by decide +kernel
theorem dX12_statement_149 : decode cX12_statement 149 = .ok (.aload_n 0, 1) := by decide +kernel
theorem dX12_statement_150 : decode cX12_statement 150 = .ok (.bipush 7, 2) := by decide +kernel
theorem dX12_statement_152 : decode cX12_statement 152 = .ok (.iconst 1, 1) := by decide +kernel
theorem dX12_statement_153 : decode cX12_statement 153 = .ok (.bipush 6, 2) := by decide +kernel
theorem dX12_statement_155 : decode cX12_statement 155 = .ok (.invokevirtual 364, 3) := by decide +kernel
theorem dX12_statement_158 : decode cX12_statement 158 = .ok (.goto 110, 3) := by decide +kernel
theorem dX12_statement_161 : decode cX12_statement 161 = .ok (.aload_n 0, 1) := by decide +kernel
theorem dX12_statement_162 : decode cX12_statement 162 = .ok (.ldc2_w 271, 3) := by decide +kernel
theorem dX12_statement_165 : decode cX12_statement 165 = .ok (.invokevirtual 329, 3) := by decide +kernel
theorem dX12_statement_168 : decode cX12_statement 168 = .ok (.ifCond .eq 15, 3) := by decide +kernel
theorem dX12_statement_171 : decode cX12_statement 171 = .ok (.aload_n 0, 1) := by decide +kernel
theorem dX12_statement_172 : decode cX12_statement 172 = .ok (.bipush 8, 2) := by decide +kernel
theorem dX12_statement_174 : decode cX12_statement 174 = .ok (.iconst 0, 1) := by decide +kernel
theorem dX12_statement_175 : decode cX12_statement 175 = .ok (.bipush 99, 2) := by decide +kernel
theorem dX12_statement_177 : decode cX12_statement 177 = .ok (.invokevirtual 364, 3) := by decide +kernel
theorem dX12_statement_180 : decode cX12_statement 180 = .ok (.goto 88, 3) := by decide +kernel
theorem dX12_statement_183 : decode cX12_statement 183 = .ok (.aload_n 0, 1) := by decide +kernel
theorem dX12_statement_184 : decode cX12_statement 184 = .ok (.ldc2_w 273, 3) := by decide +kernel
theorem dX12_statement_187 : decode cX12_statement 187 = .ok (.invokevirtual 329, 3) := by decide +kernel
theorem dX12_statement_190 : decode cX12_statement 190 = .ok (.ifCond .eq 15, 3) := by decide +kernel
theorem dX12_statement_193 : decode cX12_statement 193 = .ok (.aload_n 0, 1) := by decide +kernel
theorem dX12_statement_194 : decode cX12_statement 194 = .ok (.bipush 9, 2) := by decide +kernel
theorem dX12_statement_196 : decode cX12_statement 196 = .ok (.iconst 0, 1) := by decide +kernel
theorem dX12_statement_197 : decode cX12_statement 197 = .ok (.bipush 100, 2) := by decide +kernel
theorem dX12_statement_199 : decode cX12_statement 199 = .ok (.invokevirtual 364, 3) := by decide +kernel
theorem dX12_statement_202 : decode cX12_statement 202 = .ok (.goto 66, 3) := by decide +kernel
theorem dX12_statement_205 : decode cX12_statement 205 = .ok (.aload_n 0, 1) := by decide +kernel
theorem dX12_statement_206 : decode cX12_statement 206 = .ok (.ldc2_w 275, 3) := by decide +kernel
theorem dX12_statement_209 : decode cX12_statement 209 = .ok (.invokevirtual 329, 3) := by decide +kernel
theorem dX12_statement_212 : decode cX12_statement 212 = .ok (.ifCond .eq 11, 3) := by decide +kernel
theorem dX12_statement_215 : decode cX12_statement 215 = .ok (.aload_n 0, 1) := by decide +kernel
theorem dX12_statement_216 : decode cX12_statement 216 = .ok (.iconst 0, 1) := by decide +kernel
theorem dX12_statement_217 : decode cX12_statement 217 = .ok (.invokevirtual 368, 3) := by decide +kernel
theorem dX12_statement_220 : decode cX12_statement 220 = .ok (.goto 48, 3) := by decide +kernel
theorem dX12_statement_223 : decode cX12_statement 223 = .ok (.aload_n 0, 1) := by decide +kernel
theorem dX12_statement_224 : decode cX12_statement 224 = .ok (.ldc2_w 277, 3) := by decide +kernel
theorem dX12_statement_227 : decode cX12_statement 227 = .ok (.invokevirtual 329, 3) := by decide +kernel
theorem dX12_statement_230 : decode cX12_statement 230 = .ok (.ifCond .eq 11, 3) := by decide +kernel
theorem dX12_statement_233 : decode cX12_statement 233 = .ok (.aload_n 0, 1) := by decide +kernel
theorem dX12_statement_234 : decode cX12_statement 234 = .ok (.iconst 1, 1) := by decide +kernel
theorem dX12_statement_235 : decode cX12_statement 235 = .ok (.invokevirtual 368, 3) := by decide +kernel
theorem dX12_statement_238 : decode cX12_statement 238 = .ok (.goto 30, 3) := by decide +kernel
theorem dX12_statement_241 : decode cX12_statement 241 = .ok (.aload_n 0, 1) := by decide +kernel
theorem dX12_statement_242 : decode cX12_statement 242 = .ok (.ldc2_w 279, 3) := by decide +kernel
theorem dX12_statement_245 : decode cX12_statement 245 = .ok (.invokevirtual 329, 3) := by decide +kernel
theorem dX12_statement_248 : decode cX12_statement 248 = .ok (.ifCond .eq 11, 3) := by decide +kernel
theorem dX12_statement_251 : decode cX12_statement 251 = .ok (.aload_n 0, 1) := by decide +kernel
theorem dX12_statement_252 : decode cX12_statement 252 = .ok (.iconst 2, 1) := by decide +kernel
theorem dX12_statement_253 : decode cX12_statement 253 = .ok (.invokevirtual 368, 3) := by decide +kernel
theorem dX12_statement_256 : decode cX12_statement 256 = .ok (.goto 12, 3) := by decide +kernel
theorem dX12_statement_259 : decode cX12_statement 259 = .ok (.aload_n 0, 1) := by decide +kernel
theorem dX12_statement_260 : decode cX12_statement 260 = .ok (.iconst 1, 1) := by decide +kernel
theorem dX12_statement_261 : decode cX12_statement 261 = .ok (.aload_n 0, 1) := by decide +kernel
theorem dX12_statement_262 : decode cX12_statement 262 = .ok (.getfield 23, 3) := by decide +kernel
theorem dX12_statement_265 : decode cX12_statement 265 = .ok (.invokevirtual 235, 3) := by decide +kernel
theorem dX12_statement_268 : decode cX12_statement 268 = .ok (.return_, 1) := by decide +kernel
abbrev MX12_statement : MI := (RX12, cX12_statement, 1, 7, false)
def bX12_statement : St := (seqS (calS (ckV 12 0) mX12_lex (agC va_rf (lvR 0) agN)) (seqS (ifS (gt0 (getI 12 8 (lvR 0))) retV) (seqS (ifeS (ne0 (calX decI (ckV 12 1) mX12_isWord (agC va_rf (lvR 0) (agC Value.long (clL (lI 131294707347319)) agN)))) (calS (ckV 12 3) mX12_telling (agC va_rf (lvR 0) (agC Value.int (ciI (iI 1)) (agC Value.int (ciI (iI 1)) (agC Value.int (ciI (iI 16)) agN))))) (ifeS (ne0 (calX decI (ckV 12 1) mX12_isWord (agC va_rf (lvR 0) (agC Value.long (clL (lI 465557353332)) agN)))) (calS (ckV 12 3) mX12_telling (agC va_rf (lvR 0) (agC Value.int (ciI (iI 2)) (agC Value.int (ciI (iI 1)) (agC Value.int (ciI (iI 30)) agN))))) (ifeS (ne0 (calX decI (ckV 12 1) mX12_isWord (agC va_rf (lvR 0) (agC Value.long (clL (lI 121424940196204)) agN)))) (calS (ckV 12 3) mX12_telling (agC va_rf (lvR 0) (agC Value.int (ciI (iI 3)) (agC Value.int (ciI (iI 1)) (agC Value.int (ciI (iI 60)) agN))))) (ifeS (ne0 (calX decI (ckV 12 1) mX12_isWord (agC va_rf (lvR 0) (agC Value.long (clL (lI 1836020596)) agN)))) (calS (ckV 12 3) mX12_telling (agC va_rf (lvR 0) (agC Value.int (ciI (iI 4)) (agC Value.int (ciI (iI 30)) (agC Value.int (ciI (iI 60)) agN))))) (ifeS (ne0 (calX decI (ckV 12 1) mX12_isWord (agC va_rf (lvR 0) (agC Value.long (clL (lI 1936025459)) agN)))) (calS (ckV 12 3) mX12_telling (agC va_rf (lvR 0) (agC Value.int (ciI (iI 5)) (agC Value.int (ciI (iI 1)) (agC Value.int (ciI (iI 8)) agN))))) (ifeS (ne0 (calX decI (ckV 12 1) mX12_isWord (agC va_rf (lvR 0) (agC Value.long (clL (lI 109299962310771)) agN)))) (calS (ckV 12 3) mX12_telling (agC va_rf (lvR 0) (agC Value.int (ciI (iI 6)) (agC Value.int (ciI (iI 0)) (agC Value.int (ciI (iI 4)) agN))))) (ifeS (ne0 (calX decI (ckV 12 1) mX12_isWord (agC va_rf (lvR 0) (agC Value.long (clL (lI 1684370283)) agN)))) (calS (ckV 12 3) mX12_telling (agC va_rf (lvR 0) (agC Value.int (ciI (iI 7)) (agC Value.int (ciI (iI 1)) (agC Value.int (ciI (iI 6)) agN))))) (ifeS (ne0 (calX decI (ckV 12 1) mX12_isWord (agC va_rf (lvR 0) (agC Value.long (clL (lI 1801807216)) agN)))) (calS (ckV 12 3) mX12_telling (agC va_rf (lvR 0) (agC Value.int (ciI (iI 8)) (agC Value.int (ciI (iI 0)) (agC Value.int (ciI (iI 99)) agN))))) (ifeS (ne0 (calX decI (ckV 12 1) mX12_isWord (agC va_rf (lvR 0) (agC Value.long (clL (lI 7499636)) agN)))) (calS (ckV 12 3) mX12_telling (agC va_rf (lvR 0) (agC Value.int (ciI (iI 9)) (agC Value.int (ciI (iI 0)) (agC Value.int (ciI (iI 100)) agN))))) (ifeS (ne0 (calX decI (ckV 12 1) mX12_isWord (agC va_rf (lvR 0) (agC Value.long (clL (lI 108230800074098)) agN)))) (calS (ckV 12 1) mX12_reading (agC va_rf (lvR 0) (agC Value.int (ciI (iI 0)) agN))) (ifeS (ne0 (calX decI (ckV 12 1) mX12_isWord (agC va_rf (lvR 0) (agC Value.long (clL (lI 1752133483)) agN)))) (calS (ckV 12 1) mX12_reading (agC va_rf (lvR 0) (agC Value.int (ciI (iI 1)) agN))) (ifeS (ne0 (calX decI (ckV 12 1) mX12_isWord (agC va_rf (lvR 0) (agC Value.long (clL (lI 427020345710)) agN)))) (calS (ckV 12 1) mX12_reading (agC va_rf (lvR 0) (agC Value.int (ciI (iI 2)) agN))) (calS (ckV 12 2) mX12_blame (agC va_rf (lvR 0) (agC Value.int (ciI (iI 1)) (agC Value.int (getI 12 4 (lvR 0)) agN)))))))))))))))) retV)))
theorem jX12_statement : JS MX12_statement 0 0 0 269 [] bX12_statement :=
  (JS.seq (pc1 := 4) (JS.call (pc1 := 1) (JA.r (JX.al (k := 0) rfl dX12_statement_0) JA.nil) aX12_lex (RunK.V (i := 246) (c := 12) (n := 0) cl12 rfl (CN nX12_lex (by decide) (by decide)) gw1573 gw1575 gs61 dX12_statement_1)) (JS.seq (pc1 := 12) (JS.iff (l := 12) (pc1 := 11) (CJ.gt0_f (tgt := 12) (pc1 := 8) (JX.getI (pc1 := 5) (c := 12) (k := 8) (i := 36) (JX.al (k := 0) rfl dX12_statement_4) cl12 (by decide) rfl fk12_36 dX12_statement_5) dX12_statement_8 rfl) (JS.retV dX12_statement_11) (Or.inl rfl)) (JS.seq (pc1 := 268) (JS.ife (l := 33) (lend := 268) (pc1 := 22) (pc2 := 30) (pc3 := 268) (CJ.ne0_f (tgt := 33) (pc1 := 19) (JX.call (pc1 := 16) decI_ok (JA.r (JX.al (k := 0) rfl dX12_statement_12) (JA.l (JX.ld2K (i := 257) (by decide) gw1608 dX12_statement_13) JA.nil)) aX12_isWord (RunK.V (i := 329) (c := 12) (n := 1) cl12 rfl (CN nX12_isWord (by decide) (by decide)) gw1581 gw1583 gs63 dX12_statement_16) (by decide)) dX12_statement_19 rfl) (JS.call (pc1 := 27) (JA.r (JX.al (k := 0) rfl dX12_statement_22) (JA.i (JX.ic (n := 1) rfl dX12_statement_23) (JA.i (JX.ic (n := 1) rfl dX12_statement_24) (JA.i (JX.bp (n := 16) kb16 dX12_statement_25) JA.nil)))) aX12_telling (RunK.V (i := 364) (c := 12) (n := 3) cl12 rfl (CN nX12_telling (by decide) (by decide)) gw1609 gw1611 gs69 dX12_statement_27)) dX12_statement_30 rfl (JS.ife (l := 54) (lend := 268) (pc1 := 43) (pc2 := 51) (pc3 := 268) (CJ.ne0_f (tgt := 54) (pc1 := 40) (JX.call (pc1 := 37) decI_ok (JA.r (JX.al (k := 0) rfl dX12_statement_33) (JA.l (JX.ld2K (i := 259) (by decide) gw1617 dX12_statement_34) JA.nil)) aX12_isWord (RunK.V (i := 329) (c := 12) (n := 1) cl12 rfl (CN nX12_isWord (by decide) (by decide)) gw1581 gw1583 gs63 dX12_statement_37) (by decide)) dX12_statement_40 rfl) (JS.call (pc1 := 48) (JA.r (JX.al (k := 0) rfl dX12_statement_43) (JA.i (JX.ic (n := 2) rfl dX12_statement_44) (JA.i (JX.ic (n := 1) rfl dX12_statement_45) (JA.i (JX.bp (n := 30) kb30 dX12_statement_46) JA.nil)))) aX12_telling (RunK.V (i := 364) (c := 12) (n := 3) cl12 rfl (CN nX12_telling (by decide) (by decide)) gw1609 gw1611 gs69 dX12_statement_48)) dX12_statement_51 rfl (JS.ife (l := 75) (lend := 268) (pc1 := 64) (pc2 := 72) (pc3 := 268) (CJ.ne0_f (tgt := 75) (pc1 := 61) (JX.call (pc1 := 58) decI_ok (JA.r (JX.al (k := 0) rfl dX12_statement_54) (JA.l (JX.ld2K (i := 261) (by decide) gw1618 dX12_statement_55) JA.nil)) aX12_isWord (RunK.V (i := 329) (c := 12) (n := 1) cl12 rfl (CN nX12_isWord (by decide) (by decide)) gw1581 gw1583 gs63 dX12_statement_58) (by decide)) dX12_statement_61 rfl) (JS.call (pc1 := 69) (JA.r (JX.al (k := 0) rfl dX12_statement_64) (JA.i (JX.ic (n := 3) rfl dX12_statement_65) (JA.i (JX.ic (n := 1) rfl dX12_statement_66) (JA.i (JX.bp (n := 60) kb60 dX12_statement_67) JA.nil)))) aX12_telling (RunK.V (i := 364) (c := 12) (n := 3) cl12 rfl (CN nX12_telling (by decide) (by decide)) gw1609 gw1611 gs69 dX12_statement_69)) dX12_statement_72 rfl (JS.ife (l := 97) (lend := 268) (pc1 := 85) (pc2 := 94) (pc3 := 268) (CJ.ne0_f (tgt := 97) (pc1 := 82) (JX.call (pc1 := 79) decI_ok (JA.r (JX.al (k := 0) rfl dX12_statement_75) (JA.l (JX.ld2K (i := 263) (by decide) gw1619 dX12_statement_76) JA.nil)) aX12_isWord (RunK.V (i := 329) (c := 12) (n := 1) cl12 rfl (CN nX12_isWord (by decide) (by decide)) gw1581 gw1583 gs63 dX12_statement_79) (by decide)) dX12_statement_82 rfl) (JS.call (pc1 := 91) (JA.r (JX.al (k := 0) rfl dX12_statement_85) (JA.i (JX.ic (n := 4) rfl dX12_statement_86) (JA.i (JX.bp (n := 30) kb30 dX12_statement_87) (JA.i (JX.bp (n := 60) kb60 dX12_statement_89) JA.nil)))) aX12_telling (RunK.V (i := 364) (c := 12) (n := 3) cl12 rfl (CN nX12_telling (by decide) (by decide)) gw1609 gw1611 gs69 dX12_statement_91)) dX12_statement_94 rfl (JS.ife (l := 118) (lend := 268) (pc1 := 107) (pc2 := 115) (pc3 := 268) (CJ.ne0_f (tgt := 118) (pc1 := 104) (JX.call (pc1 := 101) decI_ok (JA.r (JX.al (k := 0) rfl dX12_statement_97) (JA.l (JX.ld2K (i := 265) (by decide) gw1620 dX12_statement_98) JA.nil)) aX12_isWord (RunK.V (i := 329) (c := 12) (n := 1) cl12 rfl (CN nX12_isWord (by decide) (by decide)) gw1581 gw1583 gs63 dX12_statement_101) (by decide)) dX12_statement_104 rfl) (JS.call (pc1 := 112) (JA.r (JX.al (k := 0) rfl dX12_statement_107) (JA.i (JX.ic (n := 5) rfl dX12_statement_108) (JA.i (JX.ic (n := 1) rfl dX12_statement_109) (JA.i (JX.bp (n := 8) kb8 dX12_statement_110) JA.nil)))) aX12_telling (RunK.V (i := 364) (c := 12) (n := 3) cl12 rfl (CN nX12_telling (by decide) (by decide)) gw1609 gw1611 gs69 dX12_statement_112)) dX12_statement_115 rfl (JS.ife (l := 139) (lend := 268) (pc1 := 128) (pc2 := 136) (pc3 := 268) (CJ.ne0_f (tgt := 139) (pc1 := 125) (JX.call (pc1 := 122) decI_ok (JA.r (JX.al (k := 0) rfl dX12_statement_118) (JA.l (JX.ld2K (i := 267) (by decide) gw1621 dX12_statement_119) JA.nil)) aX12_isWord (RunK.V (i := 329) (c := 12) (n := 1) cl12 rfl (CN nX12_isWord (by decide) (by decide)) gw1581 gw1583 gs63 dX12_statement_122) (by decide)) dX12_statement_125 rfl) (JS.call (pc1 := 133) (JA.r (JX.al (k := 0) rfl dX12_statement_128) (JA.i (JX.bp (n := 6) kb6 dX12_statement_129) (JA.i (JX.ic (n := 0) rfl dX12_statement_131) (JA.i (JX.ic (n := 4) rfl dX12_statement_132) JA.nil)))) aX12_telling (RunK.V (i := 364) (c := 12) (n := 3) cl12 rfl (CN nX12_telling (by decide) (by decide)) gw1609 gw1611 gs69 dX12_statement_133)) dX12_statement_136 rfl (JS.ife (l := 161) (lend := 268) (pc1 := 149) (pc2 := 158) (pc3 := 268) (CJ.ne0_f (tgt := 161) (pc1 := 146) (JX.call (pc1 := 143) decI_ok (JA.r (JX.al (k := 0) rfl dX12_statement_139) (JA.l (JX.ld2K (i := 269) (by decide) gw1622 dX12_statement_140) JA.nil)) aX12_isWord (RunK.V (i := 329) (c := 12) (n := 1) cl12 rfl (CN nX12_isWord (by decide) (by decide)) gw1581 gw1583 gs63 dX12_statement_143) (by decide)) dX12_statement_146 rfl) (JS.call (pc1 := 155) (JA.r (JX.al (k := 0) rfl dX12_statement_149) (JA.i (JX.bp (n := 7) kb7 dX12_statement_150) (JA.i (JX.ic (n := 1) rfl dX12_statement_152) (JA.i (JX.bp (n := 6) kb6 dX12_statement_153) JA.nil)))) aX12_telling (RunK.V (i := 364) (c := 12) (n := 3) cl12 rfl (CN nX12_telling (by decide) (by decide)) gw1609 gw1611 gs69 dX12_statement_155)) dX12_statement_158 rfl (JS.ife (l := 183) (lend := 268) (pc1 := 171) (pc2 := 180) (pc3 := 268) (CJ.ne0_f (tgt := 183) (pc1 := 168) (JX.call (pc1 := 165) decI_ok (JA.r (JX.al (k := 0) rfl dX12_statement_161) (JA.l (JX.ld2K (i := 271) (by decide) gw1623 dX12_statement_162) JA.nil)) aX12_isWord (RunK.V (i := 329) (c := 12) (n := 1) cl12 rfl (CN nX12_isWord (by decide) (by decide)) gw1581 gw1583 gs63 dX12_statement_165) (by decide)) dX12_statement_168 rfl) (JS.call (pc1 := 177) (JA.r (JX.al (k := 0) rfl dX12_statement_171) (JA.i (JX.bp (n := 8) kb8 dX12_statement_172) (JA.i (JX.ic (n := 0) rfl dX12_statement_174) (JA.i (JX.bp (n := 99) kb99 dX12_statement_175) JA.nil)))) aX12_telling (RunK.V (i := 364) (c := 12) (n := 3) cl12 rfl (CN nX12_telling (by decide) (by decide)) gw1609 gw1611 gs69 dX12_statement_177)) dX12_statement_180 rfl (JS.ife (l := 205) (lend := 268) (pc1 := 193) (pc2 := 202) (pc3 := 268) (CJ.ne0_f (tgt := 205) (pc1 := 190) (JX.call (pc1 := 187) decI_ok (JA.r (JX.al (k := 0) rfl dX12_statement_183) (JA.l (JX.ld2K (i := 273) (by decide) gw1624 dX12_statement_184) JA.nil)) aX12_isWord (RunK.V (i := 329) (c := 12) (n := 1) cl12 rfl (CN nX12_isWord (by decide) (by decide)) gw1581 gw1583 gs63 dX12_statement_187) (by decide)) dX12_statement_190 rfl) (JS.call (pc1 := 199) (JA.r (JX.al (k := 0) rfl dX12_statement_193) (JA.i (JX.bp (n := 9) kb9 dX12_statement_194) (JA.i (JX.ic (n := 0) rfl dX12_statement_196) (JA.i (JX.bp (n := 100) kb100 dX12_statement_197) JA.nil)))) aX12_telling (RunK.V (i := 364) (c := 12) (n := 3) cl12 rfl (CN nX12_telling (by decide) (by decide)) gw1609 gw1611 gs69 dX12_statement_199)) dX12_statement_202 rfl (JS.ife (l := 223) (lend := 268) (pc1 := 215) (pc2 := 220) (pc3 := 268) (CJ.ne0_f (tgt := 223) (pc1 := 212) (JX.call (pc1 := 209) decI_ok (JA.r (JX.al (k := 0) rfl dX12_statement_205) (JA.l (JX.ld2K (i := 275) (by decide) gw1625 dX12_statement_206) JA.nil)) aX12_isWord (RunK.V (i := 329) (c := 12) (n := 1) cl12 rfl (CN nX12_isWord (by decide) (by decide)) gw1581 gw1583 gs63 dX12_statement_209) (by decide)) dX12_statement_212 rfl) (JS.call (pc1 := 217) (JA.r (JX.al (k := 0) rfl dX12_statement_215) (JA.i (JX.ic (n := 0) rfl dX12_statement_216) JA.nil)) aX12_reading (RunK.V (i := 368) (c := 12) (n := 1) cl12 rfl (CN nX12_reading (by decide) (by decide)) gw1626 gw1628 gs71 dX12_statement_217)) dX12_statement_220 rfl (JS.ife (l := 241) (lend := 268) (pc1 := 233) (pc2 := 238) (pc3 := 268) (CJ.ne0_f (tgt := 241) (pc1 := 230) (JX.call (pc1 := 227) decI_ok (JA.r (JX.al (k := 0) rfl dX12_statement_223) (JA.l (JX.ld2K (i := 277) (by decide) gw1684 dX12_statement_224) JA.nil)) aX12_isWord (RunK.V (i := 329) (c := 12) (n := 1) cl12 rfl (CN nX12_isWord (by decide) (by decide)) gw1581 gw1583 gs63 dX12_statement_227) (by decide)) dX12_statement_230 rfl) (JS.call (pc1 := 235) (JA.r (JX.al (k := 0) rfl dX12_statement_233) (JA.i (JX.ic (n := 1) rfl dX12_statement_234) JA.nil)) aX12_reading (RunK.V (i := 368) (c := 12) (n := 1) cl12 rfl (CN nX12_reading (by decide) (by decide)) gw1626 gw1628 gs71 dX12_statement_235)) dX12_statement_238 rfl (JS.ife (l := 259) (lend := 268) (pc1 := 251) (pc2 := 256) (pc3 := 268) (CJ.ne0_f (tgt := 259) (pc1 := 248) (JX.call (pc1 := 245) decI_ok (JA.r (JX.al (k := 0) rfl dX12_statement_241) (JA.l (JX.ld2K (i := 279) (by decide) gw1685 dX12_statement_242) JA.nil)) aX12_isWord (RunK.V (i := 329) (c := 12) (n := 1) cl12 rfl (CN nX12_isWord (by decide) (by decide)) gw1581 gw1583 gs63 dX12_statement_245) (by decide)) dX12_statement_248 rfl) (JS.call (pc1 := 253) (JA.r (JX.al (k := 0) rfl dX12_statement_251) (JA.i (JX.ic (n := 2) rfl dX12_statement_252) JA.nil)) aX12_reading (RunK.V (i := 368) (c := 12) (n := 1) cl12 rfl (CN nX12_reading (by decide) (by decide)) gw1626 gw1628 gs71 dX12_statement_253)) dX12_statement_256 rfl (JS.call (pc1 := 265) (JA.r (JX.al (k := 0) rfl dX12_statement_259) (JA.i (JX.ic (n := 1) rfl dX12_statement_260) (JA.i (JX.getI (pc1 := 262) (c := 12) (k := 4) (i := 23) (JX.al (k := 0) rfl dX12_statement_261) cl12 (by decide) rfl fk12_23 dX12_statement_262) JA.nil))) aX12_blame (RunK.V (i := 235) (c := 12) (n := 2) cl12 rfl (CN nX12_blame (by decide) (by decide)) gw1577 gw1579 gs62 dX12_statement_265)) (Or.inl rfl)) (Or.inl rfl)) (Or.inl rfl)) (Or.inl rfl)) (Or.inl rfl)) (Or.inl rfl)) (Or.inl rfl)) (Or.inl rfl)) (Or.inl rfl)) (Or.inl rfl)) (Or.inl rfl)) (Or.inl rfl)) (JS.retV dX12_statement_268))))
def mX12_statement : MS := runM 1 none bX12_statement
theorem aX12_statement : MA yX12_statement cX12_statement 1 none 7 mX12_statement := MA.of (plainFor_of_name (by decide)) jX12_statement
theorem eX12_statement (a0 : Nat) (h : AH) : mX12_statement [.ref a0] h = (bX12_statement [.val (.ref a0)] h).bind (finM none) := rfl
/-! PieceStoreModel.finishes -/
theorem dX12_finishes_0 : decode cX12_finishes 0 = .ok (.aload_n 0, 1) := by decide +kernel
theorem dX12_finishes_1 : decode cX12_finishes 1 = .ok (.invokevirtual 246, 3) := by decide +kernel
theorem dX12_finishes_4 : decode cX12_finishes 4 = .ok (.aload_n 0, 1) := by decide +kernel
theorem dX12_finishes_5 : decode cX12_finishes 5 = .ok (.getfield 36, 3) := by decide +kernel
theorem dX12_finishes_8 : decode cX12_finishes 8 = .ok (.ifCond .le 4, 3) := by decide +kernel
theorem dX12_finishes_11 : decode cX12_finishes 11 = .ok (.return_, 1) := by decide +kernel
theorem dX12_finishes_12 : decode cX12_finishes 12 = .ok (.aload_n 0, 1) := by decide +kernel
theorem dX12_finishes_13 : decode cX12_finishes 13 = .ok (.getfield 26, 3) := by decide +kernel
theorem dX12_finishes_16 : decode cX12_finishes 16 = .ok (.istore_n 2, 1) := by decide +kernel
theorem dX12_finishes_17 : decode cX12_finishes 17 = .ok (.iload_n 2, 1) := by decide +kernel
theorem dX12_finishes_18 : decode cX12_finishes 18 = .ok (.aload_n 0, 1) := by decide +kernel
theorem dX12_finishes_19 : decode cX12_finishes 19 = .ok (.getfield 17, 3) := by decide +kernel
theorem dX12_finishes_22 : decode cX12_finishes 22 = .ok (.if_icmp .ge 31, 3) := by decide +kernel
theorem dX12_finishes_25 : decode cX12_finishes 25 = .ok (.aload_n 0, 1) := by decide +kernel
theorem dX12_finishes_26 : decode cX12_finishes 26 = .ok (.getfield 9, 3) := by decide +kernel
theorem dX12_finishes_29 : decode cX12_finishes 29 = .ok (.iload_n 2, 1) := by decide +kernel
theorem dX12_finishes_30 : decode cX12_finishes 30 = .ok (.iaload, 1) := by decide +kernel
theorem dX12_finishes_31 : decode cX12_finishes 31 = .ok (.bipush 32, 2) := by decide +kernel
theorem dX12_finishes_33 : decode cX12_finishes 33 = .ok (.if_icmp .eq 14, 3) := by decide +kernel
theorem dX12_finishes_36 : decode cX12_finishes 36 = .ok (.aload_n 0, 1) := by decide +kernel
theorem dX12_finishes_37 : decode cX12_finishes 37 = .ok (.getfield 9, 3) := by decide +kernel
theorem dX12_finishes_40 : decode cX12_finishes 40 = .ok (.iload_n 2, 1) := by decide +kernel
theorem dX12_finishes_41 : decode cX12_finishes 41 = .ok (.iaload, 1) := by decide +kernel
theorem dX12_finishes_42 : decode cX12_finishes 42 = .ok (.bipush 10, 2) := by decide +kernel
theorem dX12_finishes_44 : decode cX12_finishes 44 = .ok (.if_icmp .ne 9, 3) := by decide +kernel
theorem dX12_finishes_47 : decode cX12_finishes 47 = .ok (.iinc 2 1, 3) := by decide +kernel
theorem dX12_finishes_50 : decode cX12_finishes 50 = .ok (.goto (-33), 3) := by decide +kernel
theorem dX12_finishes_53 : decode cX12_finishes 53 = .ok (.aload_n 0, 1) := by decide +kernel
theorem dX12_finishes_54 : decode cX12_finishes 54 = .ok (.bipush 59, 2) := by decide +kernel
theorem dX12_finishes_56 : decode cX12_finishes 56 = .ok (.invokevirtual 249, 3) := by decide +kernel
theorem dX12_finishes_59 : decode cX12_finishes 59 = .ok (.ifCond .eq 24, 3) := by decide +kernel
theorem dX12_finishes_62 : decode cX12_finishes 62 = .ok (.iload_n 1, 1) := by decide +kernel
theorem dX12_finishes_63 : decode cX12_finishes 63 = .ok (.bipush 40, 2) := by decide +kernel
theorem dX12_finishes_65 : decode cX12_finishes 65 = .ok (.if_icmp .ne 18, 3) := by decide +kernel
theorem dX12_finishes_68 : decode cX12_finishes 68 = .ok (.iload_n 2, 1) := by decide +kernel
theorem dX12_finishes_69 : decode cX12_finishes 69 = .ok (.aload_n 0, 1) := by decide +kernel
theorem dX12_finishes_70 : decode cX12_finishes 70 = .ok (.getfield 17, 3) := by decide +kernel
theorem dX12_finishes_73 : decode cX12_finishes 73 = .ok (.if_icmp .ge 10, 3) := by decide +kernel
theorem dX12_finishes_76 : decode cX12_finishes 76 = .ok (.aload_n 0, 1) := by decide +kernel
theorem dX12_finishes_77 : decode cX12_finishes 77 = .ok (.bipush 6, 2) := by decide +kernel
theorem dX12_finishes_79 : decode cX12_finishes 79 = .ok (.iload_n 2, 1) := by decide +kernel
theorem dX12_finishes_80 : decode cX12_finishes 80 = .ok (.invokevirtual 235, 3) := by decide +kernel
theorem dX12_finishes_83 : decode cX12_finishes 83 = .ok (.aload_n 0, 1) := by decide +kernel
theorem dX12_finishes_84 : decode cX12_finishes 84 = .ok (.bipush 59, 2) := by decide +kernel
theorem dX12_finishes_86 : decode cX12_finishes 86 = .ok (.invokevirtual 371, 3) := by decide +kernel
theorem dX12_finishes_89 : decode cX12_finishes 89 = .ok (.return_, 1) := by decide +kernel
abbrev MX12_finishes : MI := (RX12, cX12_finishes, 3, 4, false)
def lcX12_finishes_1 : Ex Bool := (andX (ltI (lvI 2) (getI 12 2 (lvR 0))) (orX (eqI (aldI 2 (getR 12 0 (lvR 0)) (lvI 2)) (ciI (iI 32))) (eqI (aldI 2 (getR 12 0 (lvR 0)) (lvI 2)) (ciI (iI 10)))))
def lbX12_finishes_1 : St := (incI 2 (iI 1))
def bX12_finishes : St := (seqS (calS (ckV 12 0) mX12_lex (agC va_rf (lvR 0) agN)) (seqS (ifS (gt0 (getI 12 8 (lvR 0))) retV) (seqS (lsI 2 (getI 12 5 (lvR 0))) (seqS (whileS lcX12_finishes_1 lbX12_finishes_1) (seqS (ifS (andX (andX (ne0 (calX decI (ckV 12 1) mX12_isSign (agC va_rf (lvR 0) (agC Value.int (ciI (iI 59)) agN)))) (eqI (lvI 1) (ciI (iI 40)))) (ltI (lvI 2) (getI 12 2 (lvR 0)))) (calS (ckV 12 2) mX12_blame (agC va_rf (lvR 0) (agC Value.int (ciI (iI 6)) (agC Value.int (lvI 2) agN))))) (seqS (calS (ckV 12 1) mX12_must (agC va_rf (lvR 0) (agC Value.int (ciI (iI 59)) agN))) retV))))))
theorem jX12_finishes : JS MX12_finishes 0 0 0 90 [] bX12_finishes :=
  (JS.seq (pc1 := 4) (JS.call (pc1 := 1) (JA.r (JX.al (k := 0) rfl dX12_finishes_0) JA.nil) aX12_lex (RunK.V (i := 246) (c := 12) (n := 0) cl12 rfl (CN nX12_lex (by decide) (by decide)) gw1573 gw1575 gs61 dX12_finishes_1)) (JS.seq (pc1 := 12) (JS.iff (l := 12) (pc1 := 11) (CJ.gt0_f (tgt := 12) (pc1 := 8) (JX.getI (pc1 := 5) (c := 12) (k := 8) (i := 36) (JX.al (k := 0) rfl dX12_finishes_4) cl12 (by decide) rfl fk12_36 dX12_finishes_5) dX12_finishes_8 rfl) (JS.retV dX12_finishes_11) (Or.inl rfl)) (JS.seq (pc1 := 17) (JS.is (pc1 := 16) (k := 2) (JX.getI (pc1 := 13) (c := 12) (k := 5) (i := 26) (JX.al (k := 0) rfl dX12_finishes_12) cl12 (by decide) rfl fk12_26 dX12_finishes_13) rfl (show 2 < 3 by decide) dX12_finishes_16) (JS.seq (pc1 := 53) (JS.while (l := 53) (lb := 53) (pc1 := 47) (pc2 := 50) (pc3 := 53) (CJ.and_f (pc1 := 25) (CJ.lt_f (tgt := 53) (pc1 := 18) (pc2 := 22) (JX.il (k := 2) rfl dX12_finishes_17) (JX.getI (pc1 := 19) (c := 12) (k := 2) (i := 17) (JX.al (k := 0) rfl dX12_finishes_18) cl12 (by decide) rfl fk12_17 dX12_finishes_19) dX12_finishes_22 rfl) (CJ.or_f (l := 47) (pc1 := 36) (CJ.eq_t (tgt := 47) (pc1 := 31) (pc2 := 33) (JX.iald (pc1 := 29) (pc2 := 30) (JX.getR (pc1 := 26) (c := 12) (k := 0) (i := 9) (JX.al (k := 0) rfl dX12_finishes_25) cl12 (by decide) rfl fk12_9 dX12_finishes_26) (JX.il (k := 2) rfl dX12_finishes_29) dX12_finishes_30) (JX.bp (n := 32) kb32 dX12_finishes_31) dX12_finishes_33 rfl) (CJ.eq_f (tgt := 53) (pc1 := 42) (pc2 := 44) (JX.iald (pc1 := 40) (pc2 := 41) (JX.getR (pc1 := 37) (c := 12) (k := 0) (i := 9) (JX.al (k := 0) rfl dX12_finishes_36) cl12 (by decide) rfl fk12_9 dX12_finishes_37) (JX.il (k := 2) rfl dX12_finishes_40) dX12_finishes_41) (JX.bp (n := 10) kb10 dX12_finishes_42) dX12_finishes_44 rfl) (Or.inl rfl))) (JS.inc (n := 1) rfl (show 2 < 3 by decide) dX12_finishes_47) dX12_finishes_50 rfl (Or.inl rfl) (Or.inl rfl)) (JS.seq (pc1 := 83) (JS.iff (l := 83) (pc1 := 76) (CJ.and_f (pc1 := 68) (CJ.and_f (pc1 := 62) (CJ.ne0_f (tgt := 83) (pc1 := 59) (JX.call (pc1 := 56) decI_ok (JA.r (JX.al (k := 0) rfl dX12_finishes_53) (JA.i (JX.bp (n := 59) kb59 dX12_finishes_54) JA.nil)) aX12_isSign (RunK.V (i := 249) (c := 12) (n := 1) cl12 rfl (CN nX12_isSign (by decide) (by decide)) gw1596 gw1598 gs66 dX12_finishes_56) (by decide)) dX12_finishes_59 rfl) (CJ.eq_f (tgt := 83) (pc1 := 63) (pc2 := 65) (JX.il (k := 1) rfl dX12_finishes_62) (JX.bp (n := 40) kb40 dX12_finishes_63) dX12_finishes_65 rfl)) (CJ.lt_f (tgt := 83) (pc1 := 69) (pc2 := 73) (JX.il (k := 2) rfl dX12_finishes_68) (JX.getI (pc1 := 70) (c := 12) (k := 2) (i := 17) (JX.al (k := 0) rfl dX12_finishes_69) cl12 (by decide) rfl fk12_17 dX12_finishes_70) dX12_finishes_73 rfl)) (JS.call (pc1 := 80) (JA.r (JX.al (k := 0) rfl dX12_finishes_76) (JA.i (JX.bp (n := 6) kb6 dX12_finishes_77) (JA.i (JX.il (k := 2) rfl dX12_finishes_79) JA.nil))) aX12_blame (RunK.V (i := 235) (c := 12) (n := 2) cl12 rfl (CN nX12_blame (by decide) (by decide)) gw1577 gw1579 gs62 dX12_finishes_80)) (Or.inl rfl)) (JS.seq (pc1 := 89) (JS.call (pc1 := 86) (JA.r (JX.al (k := 0) rfl dX12_finishes_83) (JA.i (JX.bp (n := 59) kb59 dX12_finishes_84) JA.nil)) aX12_must (RunK.V (i := 371) (c := 12) (n := 1) cl12 rfl (CN nX12_must (by decide) (by decide)) gw1600 gw1602 gs67 dX12_finishes_86)) (JS.retV dX12_finishes_89)))))))
def mX12_finishes : MS := runM 3 none bX12_finishes
theorem aX12_finishes : MA yX12_finishes cX12_finishes 3 none 4 mX12_finishes := MA.of (plainFor_of_name (by decide)) jX12_finishes
theorem eX12_finishes (a0 : Nat) (a1 : Int32) (h : AH) : mX12_finishes [.ref a0, .int a1] h = (bX12_finishes [.val (.ref a0), .val (.int a1), .unset] h).bind (finM none) := rfl
/-! PieceStoreModel.tellsAt -/
theorem dX12_tellsAt_0 : decode cX12_tellsAt 0 = .ok (.aload_n 0, 1) := by decide +kernel
theorem dX12_tellsAt_1 : decode cX12_tellsAt 1 = .ok (.getfield 54, 3) := by decide +kernel
theorem dX12_tellsAt_4 : decode cX12_tellsAt 4 = .ok (.bipush 10, 2) := by decide +kernel
theorem dX12_tellsAt_6 : decode cX12_tellsAt 6 = .ok (.aload_n 0, 1) := by decide +kernel
theorem dX12_tellsAt_7 : decode cX12_tellsAt 7 = .ok (.getfield 72, 3) := by decide +kernel
theorem dX12_tellsAt_10 : decode cX12_tellsAt 10 = .ok (.imul, 1) := by decide +kernel
theorem dX12_tellsAt_11 : decode cX12_tellsAt 11 = .ok (.iload_n 1, 1) := by decide +kernel
theorem dX12_tellsAt_12 : decode cX12_tellsAt 12 = .ok (.iadd, 1) := by decide +kernel
theorem dX12_tellsAt_13 : decode cX12_tellsAt 13 = .ok (.iload_n 2, 1) := by decide +kernel
theorem dX12_tellsAt_14 : decode cX12_tellsAt 14 = .ok (.iastore, 1) := by decide +kernel
theorem dX12_tellsAt_15 : decode cX12_tellsAt 15 = .ok (.return_, 1) := by decide +kernel
abbrev MX12_tellsAt : MI := (RX12, cX12_tellsAt, 3, 1, false)
def bX12_tellsAt : St := (seqS (astI (getR 12 14 (lvR 0)) (addI (mulI (ciI (iI 10)) (getI 12 20 (lvR 0))) (lvI 1)) (lvI 2)) retV)
theorem jX12_tellsAt : JS MX12_tellsAt 0 0 0 16 [] bX12_tellsAt :=
  (JS.seq (pc1 := 15) (JS.ia (pc1 := 4) (pc2 := 13) (pc3 := 14) (JX.getR (pc1 := 1) (c := 12) (k := 14) (i := 54) (JX.al (k := 0) rfl dX12_tellsAt_0) cl12 (by decide) rfl fk12_54 dX12_tellsAt_1) (JX.iadd (pc1 := 11) (pc2 := 12) (JX.imul (pc1 := 6) (pc2 := 10) (JX.bp (n := 10) kb10 dX12_tellsAt_4) (JX.getI (pc1 := 7) (c := 12) (k := 20) (i := 72) (JX.al (k := 0) rfl dX12_tellsAt_6) cl12 (by decide) rfl fk12_72 dX12_tellsAt_7) dX12_tellsAt_10) (JX.il (k := 1) rfl dX12_tellsAt_11) dX12_tellsAt_12) (JX.il (k := 2) rfl dX12_tellsAt_13) dX12_tellsAt_14) (JS.retV dX12_tellsAt_15))
def mX12_tellsAt : MS := runM 3 none bX12_tellsAt
theorem aX12_tellsAt : MA yX12_tellsAt cX12_tellsAt 3 none 1 mX12_tellsAt := MA.of (plainFor_of_name (by decide)) jX12_tellsAt
theorem eX12_tellsAt (a0 : Nat) (a1 : Int32) (a2 : Int32) (h : AH) : mX12_tellsAt [.ref a0, .int a1, .int a2] h = (bX12_tellsAt [.val (.ref a0), .val (.int a1), .val (.int a2)] h).bind (finM none) := rfl
/-! PieceStoreModel.tellsUsual -/
theorem dX12_tellsUsual_0 : decode cX12_tellsUsual 0 = .ok (.aload_n 0, 1) := by decide +kernel
theorem dX12_tellsUsual_1 : decode cX12_tellsUsual 1 = .ok (.iconst 1, 1) := by decide +kernel
theorem dX12_tellsUsual_2 : decode cX12_tellsUsual 2 = .ok (.iconst 4, 1) := by decide +kernel
theorem dX12_tellsUsual_3 : decode cX12_tellsUsual 3 = .ok (.invokevirtual 386, 3) := by decide +kernel
theorem dX12_tellsUsual_6 : decode cX12_tellsUsual 6 = .ok (.aload_n 0, 1) := by decide +kernel
theorem dX12_tellsUsual_7 : decode cX12_tellsUsual 7 = .ok (.iconst 2, 1) := by decide +kernel
theorem dX12_tellsUsual_8 : decode cX12_tellsUsual 8 = .ok (.iconst 3, 1) := by decide +kernel
theorem dX12_tellsUsual_9 : decode cX12_tellsUsual 9 = .ok (.invokevirtual 386, 3) := by decide +kernel
theorem dX12_tellsUsual_12 : decode cX12_tellsUsual 12 = .ok (.aload_n 0, 1) := by decide +kernel
theorem dX12_tellsUsual_13 : decode cX12_tellsUsual 13 = .ok (.iconst 3, 1) := by decide +kernel
theorem dX12_tellsUsual_14 : decode cX12_tellsUsual 14 = .ok (.bipush 8, 2) := by decide +kernel
theorem dX12_tellsUsual_16 : decode cX12_tellsUsual 16 = .ok (.invokevirtual 386, 3) := by decide +kernel
theorem dX12_tellsUsual_19 : decode cX12_tellsUsual 19 = .ok (.aload_n 0, 1) := by decide +kernel
theorem dX12_tellsUsual_20 : decode cX12_tellsUsual 20 = .ok (.iconst 4, 1) := by decide +kernel
theorem dX12_tellsUsual_21 : decode cX12_tellsUsual 21 = .ok (.bipush 30, 2) := by decide +kernel
theorem dX12_tellsUsual_23 : decode cX12_tellsUsual 23 = .ok (.invokevirtual 386, 3) := by decide +kernel
theorem dX12_tellsUsual_26 : decode cX12_tellsUsual 26 = .ok (.aload_n 0, 1) := by decide +kernel
theorem dX12_tellsUsual_27 : decode cX12_tellsUsual 27 = .ok (.iconst 5, 1) := by decide +kernel
theorem dX12_tellsUsual_28 : decode cX12_tellsUsual 28 = .ok (.iconst 4, 1) := by decide +kernel
theorem dX12_tellsUsual_29 : decode cX12_tellsUsual 29 = .ok (.invokevirtual 386, 3) := by decide +kernel
theorem dX12_tellsUsual_32 : decode cX12_tellsUsual 32 = .ok (.aload_n 0, 1) := by decide +kernel
theorem dX12_tellsUsual_33 : decode cX12_tellsUsual 33 = .ok (.bipush 6, 2) := by decide +kernel
theorem dX12_tellsUsual_35 : decode cX12_tellsUsual 35 = .ok (.iconst 2, 1) := by decide +kernel
theorem dX12_tellsUsual_36 : decode cX12_tellsUsual 36 = .ok (.invokevirtual 386, 3) := by decide +kernel
theorem dX12_tellsUsual_39 : decode cX12_tellsUsual 39 = .ok (.aload_n 0, 1) := by decide +kernel
theorem dX12_tellsUsual_40 : decode cX12_tellsUsual 40 = .ok (.bipush 7, 2) := by decide +kernel
theorem dX12_tellsUsual_42 : decode cX12_tellsUsual 42 = .ok (.iconst 2, 1) := by decide +kernel
theorem dX12_tellsUsual_43 : decode cX12_tellsUsual 43 = .ok (.invokevirtual 386, 3) := by decide +kernel
theorem dX12_tellsUsual_46 : decode cX12_tellsUsual 46 = .ok (.aload_n 0, 1) := by decide +kernel
theorem dX12_tellsUsual_47 : decode cX12_tellsUsual 47 = .ok (.bipush 8, 2) := by decide +kernel
theorem dX12_tellsUsual_49 : decode cX12_tellsUsual 49 = .ok (.iconst 0, 1) := by decide +kernel
theorem dX12_tellsUsual_50 : decode cX12_tellsUsual 50 = .ok (.invokevirtual 386, 3) := by decide +kernel
theorem dX12_tellsUsual_53 : decode cX12_tellsUsual 53 = .ok (.aload_n 0, 1) := by decide +kernel
theorem dX12_tellsUsual_54 : decode cX12_tellsUsual 54 = .ok (.bipush 9, 2) := by decide +kernel
theorem dX12_tellsUsual_56 : decode cX12_tellsUsual 56 = .ok (.iconst 0, 1) := by decide +kernel
theorem dX12_tellsUsual_57 : decode cX12_tellsUsual 57 = .ok (.invokevirtual 386, 3) := by decide +kernel
theorem dX12_tellsUsual_60 : decode cX12_tellsUsual 60 = .ok (.return_, 1) := by decide +kernel
abbrev MX12_tellsUsual : MI := (RX12, cX12_tellsUsual, 1, 2, false)
def bX12_tellsUsual : St := (seqS (calS (ckV 12 2) mX12_tellsAt (agC va_rf (lvR 0) (agC Value.int (ciI (iI 1)) (agC Value.int (ciI (iI 4)) agN)))) (seqS (calS (ckV 12 2) mX12_tellsAt (agC va_rf (lvR 0) (agC Value.int (ciI (iI 2)) (agC Value.int (ciI (iI 3)) agN)))) (seqS (calS (ckV 12 2) mX12_tellsAt (agC va_rf (lvR 0) (agC Value.int (ciI (iI 3)) (agC Value.int (ciI (iI 8)) agN)))) (seqS (calS (ckV 12 2) mX12_tellsAt (agC va_rf (lvR 0) (agC Value.int (ciI (iI 4)) (agC Value.int (ciI (iI 30)) agN)))) (seqS (calS (ckV 12 2) mX12_tellsAt (agC va_rf (lvR 0) (agC Value.int (ciI (iI 5)) (agC Value.int (ciI (iI 4)) agN)))) (seqS (calS (ckV 12 2) mX12_tellsAt (agC va_rf (lvR 0) (agC Value.int (ciI (iI 6)) (agC Value.int (ciI (iI 2)) agN)))) (seqS (calS (ckV 12 2) mX12_tellsAt (agC va_rf (lvR 0) (agC Value.int (ciI (iI 7)) (agC Value.int (ciI (iI 2)) agN)))) (seqS (calS (ckV 12 2) mX12_tellsAt (agC va_rf (lvR 0) (agC Value.int (ciI (iI 8)) (agC Value.int (ciI (iI 0)) agN)))) (seqS (calS (ckV 12 2) mX12_tellsAt (agC va_rf (lvR 0) (agC Value.int (ciI (iI 9)) (agC Value.int (ciI (iI 0)) agN)))) retV)))))))))
theorem jX12_tellsUsual : JS MX12_tellsUsual 0 0 0 61 [] bX12_tellsUsual :=
  (JS.seq (pc1 := 6) (JS.call (pc1 := 3) (JA.r (JX.al (k := 0) rfl dX12_tellsUsual_0) (JA.i (JX.ic (n := 1) rfl dX12_tellsUsual_1) (JA.i (JX.ic (n := 4) rfl dX12_tellsUsual_2) JA.nil))) aX12_tellsAt (RunK.V (i := 386) (c := 12) (n := 2) cl12 rfl (CN nX12_tellsAt (by decide) (by decide)) gw1550 gw1552 gs57 dX12_tellsUsual_3)) (JS.seq (pc1 := 12) (JS.call (pc1 := 9) (JA.r (JX.al (k := 0) rfl dX12_tellsUsual_6) (JA.i (JX.ic (n := 2) rfl dX12_tellsUsual_7) (JA.i (JX.ic (n := 3) rfl dX12_tellsUsual_8) JA.nil))) aX12_tellsAt (RunK.V (i := 386) (c := 12) (n := 2) cl12 rfl (CN nX12_tellsAt (by decide) (by decide)) gw1550 gw1552 gs57 dX12_tellsUsual_9)) (JS.seq (pc1 := 19) (JS.call (pc1 := 16) (JA.r (JX.al (k := 0) rfl dX12_tellsUsual_12) (JA.i (JX.ic (n := 3) rfl dX12_tellsUsual_13) (JA.i (JX.bp (n := 8) kb8 dX12_tellsUsual_14) JA.nil))) aX12_tellsAt (RunK.V (i := 386) (c := 12) (n := 2) cl12 rfl (CN nX12_tellsAt (by decide) (by decide)) gw1550 gw1552 gs57 dX12_tellsUsual_16)) (JS.seq (pc1 := 26) (JS.call (pc1 := 23) (JA.r (JX.al (k := 0) rfl dX12_tellsUsual_19) (JA.i (JX.ic (n := 4) rfl dX12_tellsUsual_20) (JA.i (JX.bp (n := 30) kb30 dX12_tellsUsual_21) JA.nil))) aX12_tellsAt (RunK.V (i := 386) (c := 12) (n := 2) cl12 rfl (CN nX12_tellsAt (by decide) (by decide)) gw1550 gw1552 gs57 dX12_tellsUsual_23)) (JS.seq (pc1 := 32) (JS.call (pc1 := 29) (JA.r (JX.al (k := 0) rfl dX12_tellsUsual_26) (JA.i (JX.ic (n := 5) rfl dX12_tellsUsual_27) (JA.i (JX.ic (n := 4) rfl dX12_tellsUsual_28) JA.nil))) aX12_tellsAt (RunK.V (i := 386) (c := 12) (n := 2) cl12 rfl (CN nX12_tellsAt (by decide) (by decide)) gw1550 gw1552 gs57 dX12_tellsUsual_29)) (JS.seq (pc1 := 39) (JS.call (pc1 := 36) (JA.r (JX.al (k := 0) rfl dX12_tellsUsual_32) (JA.i (JX.bp (n := 6) kb6 dX12_tellsUsual_33) (JA.i (JX.ic (n := 2) rfl dX12_tellsUsual_35) JA.nil))) aX12_tellsAt (RunK.V (i := 386) (c := 12) (n := 2) cl12 rfl (CN nX12_tellsAt (by decide) (by decide)) gw1550 gw1552 gs57 dX12_tellsUsual_36)) (JS.seq (pc1 := 46) (JS.call (pc1 := 43) (JA.r (JX.al (k := 0) rfl dX12_tellsUsual_39) (JA.i (JX.bp (n := 7) kb7 dX12_tellsUsual_40) (JA.i (JX.ic (n := 2) rfl dX12_tellsUsual_42) JA.nil))) aX12_tellsAt (RunK.V (i := 386) (c := 12) (n := 2) cl12 rfl (CN nX12_tellsAt (by decide) (by decide)) gw1550 gw1552 gs57 dX12_tellsUsual_43)) (JS.seq (pc1 := 53) (JS.call (pc1 := 50) (JA.r (JX.al (k := 0) rfl dX12_tellsUsual_46) (JA.i (JX.bp (n := 8) kb8 dX12_tellsUsual_47) (JA.i (JX.ic (n := 0) rfl dX12_tellsUsual_49) JA.nil))) aX12_tellsAt (RunK.V (i := 386) (c := 12) (n := 2) cl12 rfl (CN nX12_tellsAt (by decide) (by decide)) gw1550 gw1552 gs57 dX12_tellsUsual_50)) (JS.seq (pc1 := 60) (JS.call (pc1 := 57) (JA.r (JX.al (k := 0) rfl dX12_tellsUsual_53) (JA.i (JX.bp (n := 9) kb9 dX12_tellsUsual_54) (JA.i (JX.ic (n := 0) rfl dX12_tellsUsual_56) JA.nil))) aX12_tellsAt (RunK.V (i := 386) (c := 12) (n := 2) cl12 rfl (CN nX12_tellsAt (by decide) (by decide)) gw1550 gw1552 gs57 dX12_tellsUsual_57)) (JS.retV dX12_tellsUsual_60))))))))))
def mX12_tellsUsual : MS := runM 1 none bX12_tellsUsual
theorem aX12_tellsUsual : MA yX12_tellsUsual cX12_tellsUsual 1 none 2 mX12_tellsUsual := MA.of (plainFor_of_name (by decide)) jX12_tellsUsual
theorem eX12_tellsUsual (a0 : Nat) (h : AH) : mX12_tellsUsual [.ref a0] h = (bX12_tellsUsual [.val (.ref a0)] h).bind (finM none) := rfl
/-! PieceStoreModel.store -/
theorem dX12_store_0 : decode cX12_store 0 = .ok (.aload_n 0, 1) := by decide +kernel
theorem dX12_store_1 : decode cX12_store 1 = .ok (.aload_n 0, 1) := by decide +kernel
theorem dX12_store_2 : decode cX12_store 2 = .ok (.getfield 13, 3) := by decide +kernel
theorem dX12_store_5 : decode cX12_store 5 = .ok (.putfield 17, 3) := by decide +kernel
theorem dX12_store_8 : decode cX12_store 8 = .ok (.aload_n 0, 1) := by decide +kernel
theorem dX12_store_9 : decode cX12_store 9 = .ok (.iconst 0, 1) := by decide +kernel
theorem dX12_store_10 : decode cX12_store 10 = .ok (.putfield 13, 3) := by decide +kernel
theorem dX12_store_13 : decode cX12_store 13 = .ok (.aload_n 0, 1) := by decide +kernel
theorem dX12_store_14 : decode cX12_store 14 = .ok (.iconst 0, 1) := by decide +kernel
theorem dX12_store_15 : decode cX12_store 15 = .ok (.putfield 26, 3) := by decide +kernel
theorem dX12_store_18 : decode cX12_store 18 = .ok (.aload_n 0, 1) := by decide +kernel
theorem dX12_store_19 : decode cX12_store 19 = .ok (.iconst 0, 1) := by decide +kernel
theorem dX12_store_20 : decode cX12_store 20 = .ok (.putfield 36, 3) := by decide +kernel
theorem dX12_store_23 : decode cX12_store 23 = .ok (.aload_n 0, 1) := by decide +kernel
theorem dX12_store_24 : decode cX12_store 24 = .ok (.iconst (-1), 1) := by decide +kernel
theorem dX12_store_25 : decode cX12_store 25 = .ok (.putfield 39, 3) := by decide +kernel
theorem dX12_store_28 : decode cX12_store 28 = .ok (.aload_n 0, 1) := by decide +kernel
theorem dX12_store_29 : decode cX12_store 29 = .ok (.iconst 1, 1) := by decide +kernel
theorem dX12_store_30 : decode cX12_store 30 = .ok (.aload_n 0, 1) := by decide +kernel
theorem dX12_store_31 : decode cX12_store 31 = .ok (.getfield 51, 3) := by decide +kernel
theorem dX12_store_34 : decode cX12_store 34 = .ok (.isub, 1) := by decide +kernel
theorem dX12_store_35 : decode cX12_store 35 = .ok (.putfield 72, 3) := by decide +kernel
theorem dX12_store_38 : decode cX12_store 38 = .ok (.aload_n 0, 1) := by decide +kernel
theorem dX12_store_39 : decode cX12_store 39 = .ok (.invokevirtual 374, 3) := by decide +kernel
theorem dX12_store_42 : decode cX12_store 42 = .ok (.iconst 3, 1) := by decide +kernel
theorem dX12_store_43 : decode cX12_store 43 = .ok (.aload_n 0, 1) := by decide +kernel
theorem dX12_store_44 : decode cX12_store 44 = .ok (.getfield 72, 3) := by decide +kernel
theorem dX12_store_47 : decode cX12_store 47 = .ok (.imul, 1) := by decide +kernel
theorem dX12_store_48 : decode cX12_store 48 = .ok (.istore_n 1, 1) := by decide +kernel
theorem dX12_store_49 : decode cX12_store 49 = .ok (.iload_n 1, 1) := by decide +kernel
theorem dX12_store_50 : decode cX12_store 50 = .ok (.iconst 3, 1) := by decide +kernel
theorem dX12_store_51 : decode cX12_store 51 = .ok (.aload_n 0, 1) := by decide +kernel
theorem dX12_store_52 : decode cX12_store 52 = .ok (.getfield 72, 3) := by decide +kernel
theorem dX12_store_55 : decode cX12_store 55 = .ok (.imul, 1) := by decide +kernel
theorem dX12_store_56 : decode cX12_store 56 = .ok (.iconst 3, 1) := by decide +kernel
theorem dX12_store_57 : decode cX12_store 57 = .ok (.iadd, 1) := by decide +kernel
theorem dX12_store_58 : decode cX12_store 58 = .ok (.if_icmp .ge 16, 3) := by decide +kernel
theorem dX12_store_61 : decode cX12_store 61 = .ok (.aload_n 0, 1) := by decide +kernel
theorem dX12_store_62 : decode cX12_store 62 = .ok (.getfield 57, 3) := by decide +kernel
theorem dX12_store_65 : decode cX12_store 65 = .ok (.iload_n 1, 1) := by decide +kernel
theorem dX12_store_66 : decode cX12_store 66 = .ok (.iconst (-1), 1) := by decide +kernel
theorem dX12_store_67 : decode cX12_store 67 = .ok (.iastore, 1) := by decide +kernel
theorem dX12_store_68 : decode cX12_store 68 = .ok (.iinc 1 1, 3) := by decide +kernel
theorem dX12_store_71 : decode cX12_store 71 = .ok (.goto (-22), 3) := by decide +kernel
theorem dX12_store_74 : decode cX12_store 74 = .ok (.aload_n 0, 1) := by decide +kernel
theorem dX12_store_75 : decode cX12_store 75 = .ok (.iconst 0, 1) := by decide +kernel
theorem dX12_store_76 : decode cX12_store 76 = .ok (.putfield 69, 3) := by decide +kernel
theorem dX12_store_79 : decode cX12_store 79 = .ok (.iconst 1, 1) := by decide +kernel
theorem dX12_store_80 : decode cX12_store 80 = .ok (.istore_n 1, 1) := by decide +kernel
theorem dX12_store_81 : decode cX12_store 81 = .ok (.aload_n 0, 1) := by decide +kernel
theorem dX12_store_82 : decode cX12_store 82 = .ok (.invokevirtual 252, 3) := by decide +kernel
theorem dX12_store_85 : decode cX12_store 85 = .ok (.aload_n 0, 1) := by decide +kernel
theorem dX12_store_86 : decode cX12_store 86 = .ok (.invokevirtual 377, 3) := by decide +kernel
theorem dX12_store_89 : decode cX12_store 89 = .ok (.aload_n 0, 1) := by decide +kernel
theorem dX12_store_90 : decode cX12_store 90 = .ok (.iload_n 1, 1) := by decide +kernel
theorem dX12_store_91 : decode cX12_store 91 = .ok (.invokevirtual 380, 3) := by decide +kernel
theorem dX12_store_94 : decode cX12_store 94 = .ok (.aload_n 0, 1) := by decide +kernel
theorem dX12_store_95 : decode cX12_store 95 = .ok (.getfield 36, 3) := by decide +kernel
theorem dX12_store_98 : decode cX12_store 98 = .ok (.ifCond .ne 25, 3) := by decide +kernel
theorem dX12_store_101 : decode cX12_store 101 = .ok (.aload_n 0, 1) := by decide +kernel
theorem dX12_store_102 : decode cX12_store 102 = .ok (.getfield 20, 3) := by decide +kernel
theorem dX12_store_105 : decode cX12_store 105 = .ok (.ifCond .eq 18, 3) := by decide +kernel
theorem dX12_store_108 : decode cX12_store 108 = .ok (.aload_n 0, 1) := by decide +kernel
theorem dX12_store_109 : decode cX12_store 109 = .ok (.invokevirtual 383, 3) := by decide +kernel
theorem dX12_store_112 : decode cX12_store 112 = .ok (.iinc 1 1, 3) := by decide +kernel
theorem dX12_store_115 : decode cX12_store 115 = .ok (.aload_n 0, 1) := by decide +kernel
theorem dX12_store_116 : decode cX12_store 116 = .ok (.iload_n 1, 1) := by decide +kernel
theorem dX12_store_117 : decode cX12_store 117 = .ok (.invokevirtual 380, 3) := by decide +kernel
theorem dX12_store_120 : decode cX12_store 120 = .ok (.goto (-26), 3) := by decide +kernel
theorem dX12_store_123 : decode cX12_store 123 = .ok (.aload_n 0, 1) := by decide +kernel
theorem dX12_store_124 : decode cX12_store 124 = .ok (.aload_n 0, 1) := by decide +kernel
theorem dX12_store_125 : decode cX12_store 125 = .ok (.getfield 36, 3) := by decide +kernel
theorem dX12_store_128 : decode cX12_store 128 = .ok (.putfield 42, 3) := by decide +kernel
theorem dX12_store_131 : decode cX12_store 131 = .ok (.aload_n 0, 1) := by decide +kernel
theorem dX12_store_132 : decode cX12_store 132 = .ok (.aload_n 0, 1) := by decide +kernel
theorem dX12_store_133 : decode cX12_store 133 = .ok (.getfield 39, 3) := by decide +kernel
theorem dX12_store_136 : decode cX12_store 136 = .ok (.putfield 45, 3) := by decide +kernel
theorem dX12_store_139 : decode cX12_store 139 = .ok (.aload_n 0, 1) := by decide +kernel
theorem dX12_store_140 : decode cX12_store 140 = .ok (.getfield 36, 3) := by decide +kernel
theorem dX12_store_143 : decode cX12_store 143 = .ok (.ifCond .le 9, 3) := by decide +kernel
theorem dX12_store_146 : decode cX12_store 146 = .ok (.aload_n 0, 1) := by decide +kernel
theorem dX12_store_147 : decode cX12_store 147 = .ok (.iconst 1, 1) := by decide +kernel
theorem dX12_store_148 : decode cX12_store 148 = .ok (.invokevirtual 227, 3) := by decide +kernel
theorem dX12_store_151 : decode cX12_store 151 = .ok (.ireturn, 1) := by decide +kernel
theorem dX12_store_152 : decode cX12_store 152 = .ok (.aload_n 0, 1) := by decide +kernel
theorem dX12_store_153 : decode cX12_store 153 = .ok (.aload_n 0, 1) := by decide +kernel
theorem dX12_store_154 : decode cX12_store 154 = .ok (.getfield 72, 3) := by decide +kernel
theorem dX12_store_157 : decode cX12_store 157 = .ok (.putfield 51, 3) := by decide +kernel
theorem dX12_store_160 : decode cX12_store 160 = .ok (.aload_n 0, 1) := by decide +kernel
theorem dX12_store_161 : decode cX12_store 161 = .ok (.iconst 1, 1) := by decide +kernel
theorem dX12_store_162 : decode cX12_store 162 = .ok (.putfield 110, 3) := by decide +kernel
theorem dX12_store_165 : decode cX12_store 165 = .ok (.aload_n 0, 1) := by decide +kernel
theorem dX12_store_166 : decode cX12_store 166 = .ok (.invokevirtual 224, 3) := by decide +kernel
theorem dX12_store_169 : decode cX12_store 169 = .ok (.iload_n 1, 1) := by decide +kernel
theorem dX12_store_170 : decode cX12_store 170 = .ok (.ireturn, 1) := by decide +kernel
abbrev MX12_store : MI := (RX12, cX12_store, 2, 8, false)
def lcX12_store_1 : Ex Bool := (ltI (lvI 1) (addI (mulI (ciI (iI 3)) (getI 12 20 (lvR 0))) (ciI (iI 3))))
def lbX12_store_1 : St := (forB (astI (getR 12 15 (lvR 0)) (lvI 1) (ciI (iI (-1)))) (incI 1 (iI 1)))
def lcX12_store_2 : Ex Bool := (andX (eq0 (getI 12 8 (lvR 0))) (ne0 (getI 12 3 (lvR 0))))
def lbX12_store_2 : St := (seqS (calS (ckV 12 0) mX12_statement (agC va_rf (lvR 0) agN)) (seqS (incI 1 (iI 1)) (calS (ckV 12 1) mX12_finishes (agC va_rf (lvR 0) (agC Value.int (lvI 1) agN)))))
def bX12_store : St := (seqS (putI 12 2 (lvR 0) (getI 12 1 (lvR 0))) (seqS (putI 12 1 (lvR 0) (ciI (iI 0))) (seqS (putI 12 5 (lvR 0) (ciI (iI 0))) (seqS (putI 12 8 (lvR 0) (ciI (iI 0))) (seqS (putI 12 9 (lvR 0) (ciI (iI (-1)))) (seqS (putI 12 20 (lvR 0) (subI (ciI (iI 1)) (getI 12 13 (lvR 0)))) (seqS (calS (ckV 12 0) mX12_tellsUsual (agC va_rf (lvR 0) agN)) (seqS (scS 1 (seqS (lsI 1 (mulI (ciI (iI 3)) (getI 12 20 (lvR 0)))) (whileS lcX12_store_1 lbX12_store_1))) (seqS (putI 12 19 (lvR 0) (ciI (iI 0))) (seqS (lsI 1 (ciI (iI 1))) (seqS (calS (ckV 12 0) mX12_ahead (agC va_rf (lvR 0) agN)) (seqS (calS (ckV 12 0) mX12_boxing (agC va_rf (lvR 0) agN)) (seqS (calS (ckV 12 1) mX12_finishes (agC va_rf (lvR 0) (agC Value.int (lvI 1) agN))) (seqS (whileS lcX12_store_2 lbX12_store_2) (seqS (putI 12 10 (lvR 0) (getI 12 8 (lvR 0))) (seqS (putI 12 11 (lvR 0) (getI 12 9 (lvR 0))) (seqS (ifS (gt0 (getI 12 8 (lvR 0))) (retI (calX decI (ckV 12 1) mX12_refuses (agC va_rf (lvR 0) (agC Value.int (ciI (iI 1)) agN))))) (seqS (putI 12 13 (lvR 0) (getI 12 20 (lvR 0))) (seqS (putZ 12 32 (lvR 0) (ciI (iI 1))) (seqS (calS (ckV 12 0) mX12_resets (agC va_rf (lvR 0) agN)) (retI (lvI 1))))))))))))))))))))))
theorem jX12_store : JS MX12_store 0 0 0 171 [] bX12_store :=
  (JS.seq (pc1 := 8) (JS.pI (pc1 := 1) (pc2 := 5) (c := 12) (k := 2) (i := 17) (JX.al (k := 0) rfl dX12_store_0) (JX.getI (pc1 := 2) (c := 12) (k := 1) (i := 13) (JX.al (k := 0) rfl dX12_store_1) cl12 (by decide) rfl fk12_13 dX12_store_2) cl12 (by decide) rfl fk12_17 (Or.inl rfl) dX12_store_5) (JS.seq (pc1 := 13) (JS.pI (pc1 := 9) (pc2 := 10) (c := 12) (k := 1) (i := 13) (JX.al (k := 0) rfl dX12_store_8) (JX.ic (n := 0) rfl dX12_store_9) cl12 (by decide) rfl fk12_13 (Or.inl rfl) dX12_store_10) (JS.seq (pc1 := 18) (JS.pI (pc1 := 14) (pc2 := 15) (c := 12) (k := 5) (i := 26) (JX.al (k := 0) rfl dX12_store_13) (JX.ic (n := 0) rfl dX12_store_14) cl12 (by decide) rfl fk12_26 (Or.inl rfl) dX12_store_15) (JS.seq (pc1 := 23) (JS.pI (pc1 := 19) (pc2 := 20) (c := 12) (k := 8) (i := 36) (JX.al (k := 0) rfl dX12_store_18) (JX.ic (n := 0) rfl dX12_store_19) cl12 (by decide) rfl fk12_36 (Or.inl rfl) dX12_store_20) (JS.seq (pc1 := 28) (JS.pI (pc1 := 24) (pc2 := 25) (c := 12) (k := 9) (i := 39) (JX.al (k := 0) rfl dX12_store_23) (JX.ic (n := (-1)) rfl dX12_store_24) cl12 (by decide) rfl fk12_39 (Or.inl rfl) dX12_store_25) (JS.seq (pc1 := 38) (JS.pI (pc1 := 29) (pc2 := 35) (c := 12) (k := 20) (i := 72) (JX.al (k := 0) rfl dX12_store_28) (JX.isub (pc1 := 30) (pc2 := 34) (JX.ic (n := 1) rfl dX12_store_29) (JX.getI (pc1 := 31) (c := 12) (k := 13) (i := 51) (JX.al (k := 0) rfl dX12_store_30) cl12 (by decide) rfl fk12_51 dX12_store_31) dX12_store_34) cl12 (by decide) rfl fk12_72 (Or.inl rfl) dX12_store_35) (JS.seq (pc1 := 42) (JS.call (pc1 := 39) (JA.r (JX.al (k := 0) rfl dX12_store_38) JA.nil) aX12_tellsUsual (RunK.V (i := 374) (c := 12) (n := 0) cl12 rfl (CN nX12_tellsUsual (by decide) (by decide)) gw1546 gw1548 gs56 dX12_store_39)) (JS.seq (pc1 := 74) (JS.sc (JS.seq (pc1 := 49) (JS.is (pc1 := 48) (k := 1) (JX.imul (pc1 := 43) (pc2 := 47) (JX.ic (n := 3) rfl dX12_store_42) (JX.getI (pc1 := 44) (c := 12) (k := 20) (i := 72) (JX.al (k := 0) rfl dX12_store_43) cl12 (by decide) rfl fk12_72 dX12_store_44) dX12_store_47) rfl (show 1 < 2 by decide) dX12_store_48) (JS.while (l := 74) (lb := 74) (pc1 := 61) (pc2 := 71) (pc3 := 74) (CJ.lt_f (tgt := 74) (pc1 := 50) (pc2 := 58) (JX.il (k := 1) rfl dX12_store_49) (JX.iadd (pc1 := 56) (pc2 := 57) (JX.imul (pc1 := 51) (pc2 := 55) (JX.ic (n := 3) rfl dX12_store_50) (JX.getI (pc1 := 52) (c := 12) (k := 20) (i := 72) (JX.al (k := 0) rfl dX12_store_51) cl12 (by decide) rfl fk12_72 dX12_store_52) dX12_store_55) (JX.ic (n := 3) rfl dX12_store_56) dX12_store_57) dX12_store_58 rfl) (JS.forb (pc1 := 68) (JS.ia (pc1 := 65) (pc2 := 66) (pc3 := 67) (JX.getR (pc1 := 62) (c := 12) (k := 15) (i := 57) (JX.al (k := 0) rfl dX12_store_61) cl12 (by decide) rfl fk12_57 dX12_store_62) (JX.il (k := 1) rfl dX12_store_65) (JX.ic (n := (-1)) rfl dX12_store_66) dX12_store_67) (JS.inc (n := 1) rfl (show 1 < 2 by decide) dX12_store_68)) dX12_store_71 rfl (Or.inl rfl) (Or.inl rfl)))) (JS.seq (pc1 := 79) (JS.pI (pc1 := 75) (pc2 := 76) (c := 12) (k := 19) (i := 69) (JX.al (k := 0) rfl dX12_store_74) (JX.ic (n := 0) rfl dX12_store_75) cl12 (by decide) rfl fk12_69 (Or.inl rfl) dX12_store_76) (JS.seq (pc1 := 81) (JS.is (pc1 := 80) (k := 1) (JX.ic (n := 1) rfl dX12_store_79) rfl (show 1 < 2 by decide) dX12_store_80) (JS.seq (pc1 := 85) (JS.call (pc1 := 82) (JA.r (JX.al (k := 0) rfl dX12_store_81) JA.nil) aX12_ahead (RunK.V (i := 252) (c := 12) (n := 0) cl12 rfl (CN nX12_ahead (by decide) (by decide)) gw1554 gw1556 gs58 dX12_store_82)) (JS.seq (pc1 := 89) (JS.call (pc1 := 86) (JA.r (JX.al (k := 0) rfl dX12_store_85) JA.nil) aX12_boxing (RunK.V (i := 377) (c := 12) (n := 0) cl12 rfl (CN nX12_boxing (by decide) (by decide)) gw1564 gw1566 gs59 dX12_store_86)) (JS.seq (pc1 := 94) (JS.call (pc1 := 91) (JA.r (JX.al (k := 0) rfl dX12_store_89) (JA.i (JX.il (k := 1) rfl dX12_store_90) JA.nil)) aX12_finishes (RunK.V (i := 380) (c := 12) (n := 1) cl12 rfl (CN nX12_finishes (by decide) (by decide)) gw1592 gw1594 gs65 dX12_store_91)) (JS.seq (pc1 := 123) (JS.while (l := 123) (lb := 123) (pc1 := 108) (pc2 := 120) (pc3 := 123) (CJ.and_f (pc1 := 101) (CJ.eq0_f (tgt := 123) (pc1 := 98) (JX.getI (pc1 := 95) (c := 12) (k := 8) (i := 36) (JX.al (k := 0) rfl dX12_store_94) cl12 (by decide) rfl fk12_36 dX12_store_95) dX12_store_98 rfl) (CJ.ne0_f (tgt := 123) (pc1 := 105) (JX.getI (pc1 := 102) (c := 12) (k := 3) (i := 20) (JX.al (k := 0) rfl dX12_store_101) cl12 (by decide) rfl fk12_20 dX12_store_102) dX12_store_105 rfl)) (JS.seq (pc1 := 112) (JS.call (pc1 := 109) (JA.r (JX.al (k := 0) rfl dX12_store_108) JA.nil) aX12_statement (RunK.V (i := 383) (c := 12) (n := 0) cl12 rfl (CN nX12_statement (by decide) (by decide)) gw1604 gw1606 gs68 dX12_store_109)) (JS.seq (pc1 := 115) (JS.inc (n := 1) rfl (show 1 < 2 by decide) dX12_store_112) (JS.call (pc1 := 117) (JA.r (JX.al (k := 0) rfl dX12_store_115) (JA.i (JX.il (k := 1) rfl dX12_store_116) JA.nil)) aX12_finishes (RunK.V (i := 380) (c := 12) (n := 1) cl12 rfl (CN nX12_finishes (by decide) (by decide)) gw1592 gw1594 gs65 dX12_store_117)))) dX12_store_120 rfl (Or.inl rfl) (Or.inl rfl)) (JS.seq (pc1 := 131) (JS.pI (pc1 := 124) (pc2 := 128) (c := 12) (k := 10) (i := 42) (JX.al (k := 0) rfl dX12_store_123) (JX.getI (pc1 := 125) (c := 12) (k := 8) (i := 36) (JX.al (k := 0) rfl dX12_store_124) cl12 (by decide) rfl fk12_36 dX12_store_125) cl12 (by decide) rfl fk12_42 (Or.inl rfl) dX12_store_128) (JS.seq (pc1 := 139) (JS.pI (pc1 := 132) (pc2 := 136) (c := 12) (k := 11) (i := 45) (JX.al (k := 0) rfl dX12_store_131) (JX.getI (pc1 := 133) (c := 12) (k := 9) (i := 39) (JX.al (k := 0) rfl dX12_store_132) cl12 (by decide) rfl fk12_39 dX12_store_133) cl12 (by decide) rfl fk12_45 (Or.inl rfl) dX12_store_136) (JS.seq (pc1 := 152) (JS.iff (l := 152) (pc1 := 146) (CJ.gt0_f (tgt := 152) (pc1 := 143) (JX.getI (pc1 := 140) (c := 12) (k := 8) (i := 36) (JX.al (k := 0) rfl dX12_store_139) cl12 (by decide) rfl fk12_36 dX12_store_140) dX12_store_143 rfl) (JS.retI (pc1 := 151) (JX.call (pc1 := 148) decI_ok (JA.r (JX.al (k := 0) rfl dX12_store_146) (JA.i (JX.ic (n := 1) rfl dX12_store_147) JA.nil)) aX12_refuses (RunK.V (i := 227) (c := 12) (n := 1) cl12 rfl (CN nX12_refuses (by decide) (by decide)) gw1530 gw1532 gs54 dX12_store_148) (by decide)) dX12_store_151) (Or.inl rfl)) (JS.seq (pc1 := 160) (JS.pI (pc1 := 153) (pc2 := 157) (c := 12) (k := 13) (i := 51) (JX.al (k := 0) rfl dX12_store_152) (JX.getI (pc1 := 154) (c := 12) (k := 20) (i := 72) (JX.al (k := 0) rfl dX12_store_153) cl12 (by decide) rfl fk12_72 dX12_store_154) cl12 (by decide) rfl fk12_51 (Or.inl rfl) dX12_store_157) (JS.seq (pc1 := 165) (JS.pZ (pc1 := 161) (pc2 := 162) (c := 12) (k := 32) (i := 110) (JX.al (k := 0) rfl dX12_store_160) (JX.ic (n := 1) rfl dX12_store_161) cl12 (by decide) rfl fk12_110 (Or.inl rfl) dX12_store_162) (JS.seq (pc1 := 169) (JS.call (pc1 := 166) (JA.r (JX.al (k := 0) rfl dX12_store_165) JA.nil) aX12_resets (RunK.V (i := 224) (c := 12) (n := 0) cl12 rfl (CN nX12_resets (by decide) (by decide)) gw1312 gw1314 gs53 dX12_store_166)) (JS.retI (pc1 := 170) (JX.il (k := 1) rfl dX12_store_169) dX12_store_170)))))))))))))))))))))
def mX12_store : MS := runM 2 (some (.int)) bX12_store
theorem aX12_store : MA yX12_store cX12_store 2 (some (.int)) 8 mX12_store := MA.of (plainFor_of_name (by decide)) jX12_store
theorem eX12_store (a0 : Nat) (h : AH) : mX12_store [.ref a0] h = (bX12_store [.val (.ref a0), .unset] h).bind (finM (some (.int))) := rfl
/-! PieceStoreModel.by -/
theorem dX12_by_0 : decode cX12_by 0 = .ok (.aload_n 0, 1) := by decide +kernel
theorem dX12_by_1 : decode cX12_by 1 = .ok (.getfield 54, 3) := by decide +kernel
theorem dX12_by_4 : decode cX12_by 4 = .ok (.bipush 10, 2) := by decide +kernel
theorem dX12_by_6 : decode cX12_by 6 = .ok (.aload_n 0, 1) := by decide +kernel
theorem dX12_by_7 : decode cX12_by 7 = .ok (.getfield 51, 3) := by decide +kernel
theorem dX12_by_10 : decode cX12_by 10 = .ok (.imul, 1) := by decide +kernel
theorem dX12_by_11 : decode cX12_by 11 = .ok (.iload_n 1, 1) := by decide +kernel
theorem dX12_by_12 : decode cX12_by 12 = .ok (.iadd, 1) := by decide +kernel
theorem dX12_by_13 : decode cX12_by 13 = .ok (.iaload, 1) := by decide +kernel
theorem dX12_by_14 : decode cX12_by 14 = .ok (.ireturn, 1) := by decide +kernel
abbrev MX12_by : MI := (RX12, cX12_by, 2, 1, false)
def bX12_by : St := (retI (aldI 2 (getR 12 14 (lvR 0)) (addI (mulI (ciI (iI 10)) (getI 12 13 (lvR 0))) (lvI 1))))
theorem jX12_by : JS MX12_by 0 0 0 15 [] bX12_by :=
  (JS.retI (pc1 := 14) (JX.iald (pc1 := 4) (pc2 := 13) (JX.getR (pc1 := 1) (c := 12) (k := 14) (i := 54) (JX.al (k := 0) rfl dX12_by_0) cl12 (by decide) rfl fk12_54 dX12_by_1) (JX.iadd (pc1 := 11) (pc2 := 12) (JX.imul (pc1 := 6) (pc2 := 10) (JX.bp (n := 10) kb10 dX12_by_4) (JX.getI (pc1 := 7) (c := 12) (k := 13) (i := 51) (JX.al (k := 0) rfl dX12_by_6) cl12 (by decide) rfl fk12_51 dX12_by_7) dX12_by_10) (JX.il (k := 1) rfl dX12_by_11) dX12_by_12) dX12_by_13) dX12_by_14)
def mX12_by : MS := runM 2 (some (.int)) bX12_by
theorem aX12_by : MA yX12_by cX12_by 2 (some (.int)) 1 mX12_by := MA.of (plainFor_of_name (by decide)) jX12_by
theorem eX12_by (a0 : Nat) (a1 : Int32) (h : AH) : mX12_by [.ref a0, .int a1] h = (bX12_by [.val (.ref a0), .val (.int a1)] h).bind (finM (some (.int))) := rfl
/-! PieceStoreModel.fault -/
theorem dX12_fault_0 : decode cX12_fault 0 = .ok (.iload_n 1, 1) := by decide +kernel
theorem dX12_fault_1 : decode cX12_fault 1 = .ok (.ifCond .ne 10, 3) := by decide +kernel
theorem dX12_fault_4 : decode cX12_fault 4 = .ok (.aload_n 0, 1) := by decide +kernel
theorem dX12_fault_5 : decode cX12_fault 5 = .ok (.getfield 42, 3) := by decide +kernel
theorem dX12_fault_8 : decode cX12_fault 8 = .ok (.goto 16, 3) := by decide +kernel
theorem dX12_fault_11 : decode cX12_fault 11 = .ok (.iload_n 1, 1) := by decide +kernel
theorem dX12_fault_12 : decode cX12_fault 12 = .ok (.iconst 1, 1) := by decide +kernel
theorem dX12_fault_13 : decode cX12_fault 13 = .ok (.if_icmp .ne 10, 3) := by decide +kernel
theorem dX12_fault_16 : decode cX12_fault 16 = .ok (.aload_n 0, 1) := by decide +kernel
theorem dX12_fault_17 : decode cX12_fault 17 = .ok (.getfield 45, 3) := by decide +kernel
theorem dX12_fault_20 : decode cX12_fault 20 = .ok (.goto 4, 3) := by decide +kernel
theorem dX12_fault_23 : decode cX12_fault 23 = .ok (.iconst (-1), 1) := by decide +kernel
theorem dX12_fault_24 : decode cX12_fault 24 = .ok (.ireturn, 1) := by decide +kernel
abbrev MX12_fault : MI := (RX12, cX12_fault, 2, 1, false)
def bX12_fault : St := (retI (iteX (eq0 (lvI 1)) (getI 12 10 (lvR 0)) (iteX (eqI (lvI 1) (ciI (iI 1))) (getI 12 11 (lvR 0)) (ciI (iI (-1))))))
theorem jX12_fault : JS MX12_fault 0 0 0 25 [] bX12_fault :=
  (JS.retI (pc1 := 24) (JX.ite (l := 11) (pc1 := 4) (pc2 := 8) (pc3 := 24) (lend := 24) (CJ.eq0_f (tgt := 11) (pc1 := 1) (JX.il (k := 1) rfl dX12_fault_0) dX12_fault_1 rfl) (JX.getI (pc1 := 5) (c := 12) (k := 10) (i := 42) (JX.al (k := 0) rfl dX12_fault_4) cl12 (by decide) rfl fk12_42 dX12_fault_5) dX12_fault_8 rfl (JX.ite (l := 23) (pc1 := 16) (pc2 := 20) (pc3 := 24) (lend := 24) (CJ.eq_f (tgt := 23) (pc1 := 12) (pc2 := 13) (JX.il (k := 1) rfl dX12_fault_11) (JX.ic (n := 1) rfl dX12_fault_12) dX12_fault_13 rfl) (JX.getI (pc1 := 17) (c := 12) (k := 11) (i := 45) (JX.al (k := 0) rfl dX12_fault_16) cl12 (by decide) rfl fk12_45 dX12_fault_17) dX12_fault_20 rfl (JX.ic (n := (-1)) rfl dX12_fault_23) (Or.inl rfl)) (Or.inl rfl)) dX12_fault_24)
def mX12_fault : MS := runM 2 (some (.int)) bX12_fault
theorem aX12_fault : MA yX12_fault cX12_fault 2 (some (.int)) 1 mX12_fault := MA.of (plainFor_of_name (by decide)) jX12_fault
theorem eX12_fault (a0 : Nat) (a1 : Int32) (h : AH) : mX12_fault [.ref a0, .int a1] h = (bX12_fault [.val (.ref a0), .val (.int a1)] h).bind (finM (some (.int))) := rfl
/-! PieceStoreModel.status -/
theorem dX12_status_0 : decode cX12_status 0 = .ok (.iload_n 1, 1) := by decide +kernel
theorem dX12_status_1 : decode cX12_status 1 = .ok (.iconst 0, 1) := by decide +kernel
theorem dX12_status_2 : decode cX12_status 2 = .ok (.iconst 5, 1) := by decide +kernel
theorem dX12_status_3 : decode cX12_status 3 = .ok (.invokestatic 313, 3) := by decide +kernel
theorem dX12_status_6 : decode cX12_status 6 = .ok (.ifCond .eq 12, 3) := by decide +kernel
theorem dX12_status_9 : decode cX12_status 9 = .ok (.aload_n 0, 1) := by decide +kernel
theorem dX12_status_10 : decode cX12_status 10 = .ok (.getfield 113, 3) := by decide +kernel
theorem dX12_status_13 : decode cX12_status 13 = .ok (.iload_n 1, 1) := by decide +kernel
theorem dX12_status_14 : decode cX12_status 14 = .ok (.iaload, 1) := by decide +kernel
theorem dX12_status_15 : decode cX12_status 15 = .ok (.goto 4, 3) := by decide +kernel
theorem dX12_status_18 : decode cX12_status 18 = .ok (.iconst (-1), 1) := by decide +kernel
theorem dX12_status_19 : decode cX12_status 19 = .ok (.ireturn, 1) := by decide +kernel
abbrev MX12_status : MI := (RX12, cX12_status, 2, 2, false)
def bX12_status : St := (retI (iteX (ne0 (calX decI (ckS 3) mX12_is (agC Value.int (lvI 1) (agC Value.int (ciI (iI 0)) (agC Value.int (ciI (iI 5)) agN))))) (aldI 2 (getR 12 33 (lvR 0)) (lvI 1)) (ciI (iI (-1)))))
theorem jX12_status : JS MX12_status 0 0 0 20 [] bX12_status :=
  (JS.retI (pc1 := 19) (JX.ite (l := 18) (pc1 := 9) (pc2 := 15) (pc3 := 19) (lend := 19) (CJ.ne0_f (tgt := 18) (pc1 := 6) (JX.call (pc1 := 3) decI_ok (JA.i (JX.il (k := 1) rfl dX12_status_0) (JA.i (JX.ic (n := 0) rfl dX12_status_1) (JA.i (JX.ic (n := 5) rfl dX12_status_2) JA.nil))) aX12_is (RunK.S (i := 313) (n := 3) (CN nX12_is (by decide) (by decide)) gw1589 gw1590 dX12_status_3) (by decide)) dX12_status_6 rfl) (JX.iald (pc1 := 13) (pc2 := 14) (JX.getR (pc1 := 10) (c := 12) (k := 33) (i := 113) (JX.al (k := 0) rfl dX12_status_9) cl12 (by decide) rfl fk12_113 dX12_status_10) (JX.il (k := 1) rfl dX12_status_13) dX12_status_14) dX12_status_15 rfl (JX.ic (n := (-1)) rfl dX12_status_18) (Or.inl rfl)) dX12_status_19)
def mX12_status : MS := runM 2 (some (.int)) bX12_status
theorem aX12_status : MA yX12_status cX12_status 2 (some (.int)) 2 mX12_status := MA.of (plainFor_of_name (by decide)) jX12_status
theorem eX12_status (a0 : Nat) (a1 : Int32) (h : AH) : mX12_status [.ref a0, .int a1] h = (bX12_status [.val (.ref a0), .val (.int a1)] h).bind (finM (some (.int))) := rfl
/-! PieceStoreModel.puts -/
theorem dX12_puts_0 : decode cX12_puts 0 = .ok (.aload_n 0, 1) := by decide +kernel
theorem dX12_puts_1 : decode cX12_puts 1 = .ok (.getfield 117, 3) := by decide +kernel
theorem dX12_puts_4 : decode cX12_puts 4 = .ok (.iload_n 1, 1) := by decide +kernel
theorem dX12_puts_5 : decode cX12_puts 5 = .ok (.iaload, 1) := by decide +kernel
theorem dX12_puts_6 : decode cX12_puts 6 = .ok (.iload_n 2, 1) := by decide +kernel
theorem dX12_puts_7 : decode cX12_puts 7 = .ok (.if_icmp .ne 4, 3) := by decide +kernel
theorem dX12_puts_10 : decode cX12_puts 10 = .ok (.return_, 1) := by decide +kernel
theorem dX12_puts_11 : decode cX12_puts 11 = .ok (.aload_n 0, 1) := by decide +kernel
theorem dX12_puts_12 : decode cX12_puts 12 = .ok (.getfield 121, 3) := by decide +kernel
theorem dX12_puts_15 : decode cX12_puts 15 = .ok (.aload_n 0, 1) := by decide +kernel
theorem dX12_puts_16 : decode cX12_puts 16 = .ok (.getfield 127, 3) := by decide +kernel
theorem dX12_puts_19 : decode cX12_puts 19 = .ok (.iload_n 1, 1) := by decide +kernel
theorem dX12_puts_20 : decode cX12_puts 20 = .ok (.iastore, 1) := by decide +kernel
theorem dX12_puts_21 : decode cX12_puts 21 = .ok (.aload_n 0, 1) := by decide +kernel
theorem dX12_puts_22 : decode cX12_puts 22 = .ok (.getfield 124, 3) := by decide +kernel
theorem dX12_puts_25 : decode cX12_puts 25 = .ok (.aload_n 0, 1) := by decide +kernel
theorem dX12_puts_26 : decode cX12_puts 26 = .ok (.getfield 127, 3) := by decide +kernel
theorem dX12_puts_29 : decode cX12_puts 29 = .ok (.aload_n 0, 1) := by decide +kernel
theorem dX12_puts_30 : decode cX12_puts 30 = .ok (.getfield 117, 3) := by decide +kernel
theorem dX12_puts_33 : decode cX12_puts 33 = .ok (.iload_n 1, 1) := by decide +kernel
theorem dX12_puts_34 : decode cX12_puts 34 = .ok (.iaload, 1) := by decide +kernel
theorem dX12_puts_35 : decode cX12_puts 35 = .ok (.iastore, 1) := by decide +kernel
theorem dX12_puts_36 : decode cX12_puts 36 = .ok (.aload_n 0, 1) := by decide +kernel
theorem dX12_puts_37 : decode cX12_puts 37 = .ok (.dup, 1) := by decide +kernel
theorem dX12_puts_38 : decode cX12_puts 38 = .ok (.getfield 127, 3) := by decide +kernel
theorem dX12_puts_41 : decode cX12_puts 41 = .ok (.iconst 1, 1) := by decide +kernel
theorem dX12_puts_42 : decode cX12_puts 42 = .ok (.iadd, 1) := by decide +kernel
theorem dX12_puts_43 : decode cX12_puts 43 = .ok (.putfield 127, 3) := by decide +kernel
theorem dX12_puts_46 : decode cX12_puts 46 = .ok (.aload_n 0, 1) := by decide +kernel
theorem dX12_puts_47 : decode cX12_puts 47 = .ok (.getfield 117, 3) := by decide +kernel
theorem dX12_puts_50 : decode cX12_puts 50 = .ok (.iload_n 1, 1) := by decide +kernel
theorem dX12_puts_51 : decode cX12_puts 51 = .ok (.iload_n 2, 1) := by decide +kernel
theorem dX12_puts_52 : decode cX12_puts 52 = .ok (.iastore, 1) := by decide +kernel
theorem dX12_puts_53 : decode cX12_puts 53 = .ok (.return_, 1) := by decide +kernel
abbrev MX12_puts : MI := (RX12, cX12_puts, 3, 1, false)
def bX12_puts : St := (seqS (ifS (eqI (aldI 2 (getR 12 34 (lvR 0)) (lvI 1)) (lvI 2)) retV) (seqS (astI (getR 12 35 (lvR 0)) (getI 12 37 (lvR 0)) (lvI 1)) (seqS (astI (getR 12 36 (lvR 0)) (getI 12 37 (lvR 0)) (aldI 2 (getR 12 34 (lvR 0)) (lvI 1))) (seqS (updI 12 37 (fun x y => x + y) (lvR 0) (ciI (iI 1))) (seqS (astI (getR 12 34 (lvR 0)) (lvI 1) (lvI 2)) retV)))))
theorem jX12_puts : JS MX12_puts 0 0 0 54 [] bX12_puts :=
  (JS.seq (pc1 := 11) (JS.iff (l := 11) (pc1 := 10) (CJ.eq_f (tgt := 11) (pc1 := 6) (pc2 := 7) (JX.iald (pc1 := 4) (pc2 := 5) (JX.getR (pc1 := 1) (c := 12) (k := 34) (i := 117) (JX.al (k := 0) rfl dX12_puts_0) cl12 (by decide) rfl fk12_117 dX12_puts_1) (JX.il (k := 1) rfl dX12_puts_4) dX12_puts_5) (JX.il (k := 2) rfl dX12_puts_6) dX12_puts_7 rfl) (JS.retV dX12_puts_10) (Or.inl rfl)) (JS.seq (pc1 := 21) (JS.ia (pc1 := 15) (pc2 := 19) (pc3 := 20) (JX.getR (pc1 := 12) (c := 12) (k := 35) (i := 121) (JX.al (k := 0) rfl dX12_puts_11) cl12 (by decide) rfl fk12_121 dX12_puts_12) (JX.getI (pc1 := 16) (c := 12) (k := 37) (i := 127) (JX.al (k := 0) rfl dX12_puts_15) cl12 (by decide) rfl fk12_127 dX12_puts_16) (JX.il (k := 1) rfl dX12_puts_19) dX12_puts_20) (JS.seq (pc1 := 36) (JS.ia (pc1 := 25) (pc2 := 29) (pc3 := 35) (JX.getR (pc1 := 22) (c := 12) (k := 36) (i := 124) (JX.al (k := 0) rfl dX12_puts_21) cl12 (by decide) rfl fk12_124 dX12_puts_22) (JX.getI (pc1 := 26) (c := 12) (k := 37) (i := 127) (JX.al (k := 0) rfl dX12_puts_25) cl12 (by decide) rfl fk12_127 dX12_puts_26) (JX.iald (pc1 := 33) (pc2 := 34) (JX.getR (pc1 := 30) (c := 12) (k := 34) (i := 117) (JX.al (k := 0) rfl dX12_puts_29) cl12 (by decide) rfl fk12_117 dX12_puts_30) (JX.il (k := 1) rfl dX12_puts_33) dX12_puts_34) dX12_puts_35) (JS.seq (pc1 := 46) (JS.upA (pc1 := 37) (pc2 := 42) (c := 12) (k := 37) (i := 127) (JX.al (k := 0) rfl dX12_puts_36) dX12_puts_37 cl12 (by decide) rfl fk12_127 (Or.inl rfl) dX12_puts_38 (JX.ic (n := 1) rfl dX12_puts_41) dX12_puts_42 dX12_puts_43) (JS.seq (pc1 := 53) (JS.ia (pc1 := 50) (pc2 := 51) (pc3 := 52) (JX.getR (pc1 := 47) (c := 12) (k := 34) (i := 117) (JX.al (k := 0) rfl dX12_puts_46) cl12 (by decide) rfl fk12_117 dX12_puts_47) (JX.il (k := 1) rfl dX12_puts_50) (JX.il (k := 2) rfl dX12_puts_51) dX12_puts_52) (JS.retV dX12_puts_53))))))
def mX12_puts : MS := runM 3 none bX12_puts
theorem aX12_puts : MA yX12_puts cX12_puts 3 none 1 mX12_puts := MA.of (plainFor_of_name (by decide)) jX12_puts
theorem eX12_puts (a0 : Nat) (a1 : Int32) (a2 : Int32) (h : AH) : mX12_puts [.ref a0, .int a1, .int a2] h = (bX12_puts [.val (.ref a0), .val (.int a1), .val (.int a2)] h).bind (finM none) := rfl
/-! PieceStoreModel.takesBack -/
theorem dX12_takesBack_0 : decode cX12_takesBack 0 = .ok (.aload_n 0, 1) := by decide +kernel
theorem dX12_takesBack_1 : decode cX12_takesBack 1 = .ok (.getfield 127, 3) := by decide +kernel
theorem dX12_takesBack_4 : decode cX12_takesBack 4 = .ok (.iload_n 1, 1) := by decide +kernel
theorem dX12_takesBack_5 : decode cX12_takesBack 5 = .ok (.if_icmp .le 39, 3) := by decide +kernel
theorem dX12_takesBack_8 : decode cX12_takesBack 8 = .ok (.aload_n 0, 1) := by decide +kernel
theorem dX12_takesBack_9 : decode cX12_takesBack 9 = .ok (.dup, 1) := by decide +kernel
theorem dX12_takesBack_10 : decode cX12_takesBack 10 = .ok (.getfield 127, 3) := by decide +kernel
theorem dX12_takesBack_13 : decode cX12_takesBack 13 = .ok (.iconst 1, 1) := by decide +kernel
theorem dX12_takesBack_14 : decode cX12_takesBack 14 = .ok (.isub, 1) := by decide +kernel
theorem dX12_takesBack_15 : decode cX12_takesBack 15 = .ok (.putfield 127, 3) := by decide +kernel
theorem dX12_takesBack_18 : decode cX12_takesBack 18 = .ok (.aload_n 0, 1) := by decide +kernel
theorem dX12_takesBack_19 : decode cX12_takesBack 19 = .ok (.getfield 117, 3) := by decide +kernel
theorem dX12_takesBack_22 : decode cX12_takesBack 22 = .ok (.aload_n 0, 1) := by decide +kernel
theorem dX12_takesBack_23 : decode cX12_takesBack 23 = .ok (.getfield 121, 3) := by decide +kernel
theorem dX12_takesBack_26 : decode cX12_takesBack 26 = .ok (.aload_n 0, 1) := by decide +kernel
theorem dX12_takesBack_27 : decode cX12_takesBack 27 = .ok (.getfield 127, 3) := by decide +kernel
theorem dX12_takesBack_30 : decode cX12_takesBack 30 = .ok (.iaload, 1) := by decide +kernel
theorem dX12_takesBack_31 : decode cX12_takesBack 31 = .ok (.aload_n 0, 1) := by decide +kernel
theorem dX12_takesBack_32 : decode cX12_takesBack 32 = .ok (.getfield 124, 3) := by decide +kernel
theorem dX12_takesBack_35 : decode cX12_takesBack 35 = .ok (.aload_n 0, 1) := by decide +kernel
theorem dX12_takesBack_36 : decode cX12_takesBack 36 = .ok (.getfield 127, 3) := by decide +kernel
theorem dX12_takesBack_39 : decode cX12_takesBack 39 = .ok (.iaload, 1) := by decide +kernel
theorem dX12_takesBack_40 : decode cX12_takesBack 40 = .ok (.iastore, 1) := by decide +kernel
theorem dX12_takesBack_41 : decode cX12_takesBack 41 = .ok (.goto (-41), 3) := by decide +kernel
theorem dX12_takesBack_44 : decode cX12_takesBack 44 = .ok (.return_, 1) := by decide +kernel
abbrev MX12_takesBack : MI := (RX12, cX12_takesBack, 2, 1, false)
def lcX12_takesBack_1 : Ex Bool := (gtI (getI 12 37 (lvR 0)) (lvI 1))
def lbX12_takesBack_1 : St := (seqS (updI 12 37 (fun x y => x - y) (lvR 0) (ciI (iI 1))) (astI (getR 12 34 (lvR 0)) (aldI 2 (getR 12 35 (lvR 0)) (getI 12 37 (lvR 0))) (aldI 2 (getR 12 36 (lvR 0)) (getI 12 37 (lvR 0)))))
def bX12_takesBack : St := (seqS (whileS lcX12_takesBack_1 lbX12_takesBack_1) retV)
theorem jX12_takesBack : JS MX12_takesBack 0 0 0 45 [] bX12_takesBack :=
  (JS.seq (pc1 := 44) (JS.while (l := 44) (lb := 44) (pc1 := 8) (pc2 := 41) (pc3 := 44) (CJ.gt_f (tgt := 44) (pc1 := 4) (pc2 := 5) (JX.getI (pc1 := 1) (c := 12) (k := 37) (i := 127) (JX.al (k := 0) rfl dX12_takesBack_0) cl12 (by decide) rfl fk12_127 dX12_takesBack_1) (JX.il (k := 1) rfl dX12_takesBack_4) dX12_takesBack_5 rfl) (JS.seq (pc1 := 18) (JS.upS (pc1 := 9) (pc2 := 14) (c := 12) (k := 37) (i := 127) (JX.al (k := 0) rfl dX12_takesBack_8) dX12_takesBack_9 cl12 (by decide) rfl fk12_127 (Or.inl rfl) dX12_takesBack_10 (JX.ic (n := 1) rfl dX12_takesBack_13) dX12_takesBack_14 dX12_takesBack_15) (JS.ia (pc1 := 22) (pc2 := 31) (pc3 := 40) (JX.getR (pc1 := 19) (c := 12) (k := 34) (i := 117) (JX.al (k := 0) rfl dX12_takesBack_18) cl12 (by decide) rfl fk12_117 dX12_takesBack_19) (JX.iald (pc1 := 26) (pc2 := 30) (JX.getR (pc1 := 23) (c := 12) (k := 35) (i := 121) (JX.al (k := 0) rfl dX12_takesBack_22) cl12 (by decide) rfl fk12_121 dX12_takesBack_23) (JX.getI (pc1 := 27) (c := 12) (k := 37) (i := 127) (JX.al (k := 0) rfl dX12_takesBack_26) cl12 (by decide) rfl fk12_127 dX12_takesBack_27) dX12_takesBack_30) (JX.iald (pc1 := 35) (pc2 := 39) (JX.getR (pc1 := 32) (c := 12) (k := 36) (i := 124) (JX.al (k := 0) rfl dX12_takesBack_31) cl12 (by decide) rfl fk12_124 dX12_takesBack_32) (JX.getI (pc1 := 36) (c := 12) (k := 37) (i := 127) (JX.al (k := 0) rfl dX12_takesBack_35) cl12 (by decide) rfl fk12_127 dX12_takesBack_36) dX12_takesBack_39) dX12_takesBack_40)) dX12_takesBack_41 rfl (Or.inl rfl) (Or.inl rfl)) (JS.retV dX12_takesBack_44))
def mX12_takesBack : MS := runM 2 none bX12_takesBack
theorem aX12_takesBack : MA yX12_takesBack cX12_takesBack 2 none 1 mX12_takesBack := MA.of (plainFor_of_name (by decide)) jX12_takesBack
theorem eX12_takesBack (a0 : Nat) (a1 : Int32) (h : AH) : mX12_takesBack [.ref a0, .int a1] h = (bX12_takesBack [.val (.ref a0), .val (.int a1)] h).bind (finM none) := rfl
/-! PieceStoreModel.keeps -/
theorem dX12_keeps_0 : decode cX12_keeps 0 = .ok (.aload_n 0, 1) := by decide +kernel
theorem dX12_keeps_1 : decode cX12_keeps 1 = .ok (.getfield 133, 3) := by decide +kernel
theorem dX12_keeps_4 : decode cX12_keeps 4 = .ok (.bipush 20, 2) := by decide +kernel
theorem dX12_keeps_6 : decode cX12_keeps 6 = .ok (.if_icmp .ne 104, 3) := by decide +kernel
theorem dX12_keeps_9 : decode cX12_keeps 9 = .ok (.aload_n 0, 1) := by decide +kernel
theorem dX12_keeps_10 : decode cX12_keeps 10 = .ok (.getfield 130, 3) := by decide +kernel
theorem dX12_keeps_13 : decode cX12_keeps 13 = .ok (.iconst 1, 1) := by decide +kernel
theorem dX12_keeps_14 : decode cX12_keeps 14 = .ok (.iaload, 1) := by decide +kernel
theorem dX12_keeps_15 : decode cX12_keeps 15 = .ok (.istore_n 1, 1) := by decide +kernel
theorem dX12_keeps_16 : decode cX12_keeps 16 = .ok (.iload_n 1, 1) := by decide +kernel
theorem dX12_keeps_17 : decode cX12_keeps 17 = .ok (.istore_n 2, 1) := by decide +kernel
theorem dX12_keeps_18 : decode cX12_keeps 18 = .ok (.iload_n 2, 1) := by decide +kernel
theorem dX12_keeps_19 : decode cX12_keeps 19 = .ok (.aload_n 0, 1) := by decide +kernel
theorem dX12_keeps_20 : decode cX12_keeps 20 = .ok (.getfield 127, 3) := by decide +kernel
theorem dX12_keeps_23 : decode cX12_keeps 23 = .ok (.if_icmp .ge 37, 3) := by decide +kernel
theorem dX12_keeps_26 : decode cX12_keeps 26 = .ok (.aload_n 0, 1) := by decide +kernel
theorem dX12_keeps_27 : decode cX12_keeps 27 = .ok (.getfield 121, 3) := by decide +kernel
theorem dX12_keeps_30 : decode cX12_keeps 30 = .ok (.iload_n 2, 1) := by decide +kernel
theorem dX12_keeps_31 : decode cX12_keeps 31 = .ok (.iload_n 1, 1) := by decide +kernel
theorem dX12_keeps_32 : decode cX12_keeps 32 = .ok (.isub, 1) := by decide +kernel
theorem dX12_keeps_33 : decode cX12_keeps 33 = .ok (.aload_n 0, 1) := by decide +kernel
theorem dX12_keeps_34 : decode cX12_keeps 34 = .ok (.getfield 121, 3) := by decide +kernel
theorem dX12_keeps_37 : decode cX12_keeps 37 = .ok (.iload_n 2, 1) := by decide +kernel
theorem dX12_keeps_38 : decode cX12_keeps 38 = .ok (.iaload, 1) := by decide +kernel
theorem dX12_keeps_39 : decode cX12_keeps 39 = .ok (.iastore, 1) := by decide +kernel
theorem dX12_keeps_40 : decode cX12_keeps 40 = .ok (.aload_n 0, 1) := by decide +kernel
theorem dX12_keeps_41 : decode cX12_keeps 41 = .ok (.getfield 124, 3) := by decide +kernel
theorem dX12_keeps_44 : decode cX12_keeps 44 = .ok (.iload_n 2, 1) := by decide +kernel
theorem dX12_keeps_45 : decode cX12_keeps 45 = .ok (.iload_n 1, 1) := by decide +kernel
theorem dX12_keeps_46 : decode cX12_keeps 46 = .ok (.isub, 1) := by decide +kernel
theorem dX12_keeps_47 : decode cX12_keeps 47 = .ok (.aload_n 0, 1) := by decide +kernel
theorem dX12_keeps_48 : decode cX12_keeps 48 = .ok (.getfield 124, 3) := by decide +kernel
theorem dX12_keeps_51 : decode cX12_keeps 51 = .ok (.iload_n 2, 1) := by decide +kernel
theorem dX12_keeps_52 : decode cX12_keeps 52 = .ok (.iaload, 1) := by decide +kernel
theorem dX12_keeps_53 : decode cX12_keeps 53 = .ok (.iastore, 1) := by decide +kernel
theorem dX12_keeps_54 : decode cX12_keeps 54 = .ok (.iinc 2 1, 3) := by decide +kernel
theorem dX12_keeps_57 : decode cX12_keeps 57 = .ok (.goto (-39), 3) := by decide +kernel
theorem dX12_keeps_60 : decode cX12_keeps 60 = .ok (.aload_n 0, 1) := by decide +kernel
theorem dX12_keeps_61 : decode cX12_keeps 61 = .ok (.dup, 1) := by decide +kernel
theorem dX12_keeps_62 : decode cX12_keeps 62 = .ok (.getfield 127, 3) := by decide +kernel
theorem dX12_keeps_65 : decode cX12_keeps 65 = .ok (.iload_n 1, 1) := by decide +kernel
theorem dX12_keeps_66 : decode cX12_keeps 66 = .ok (.isub, 1) := by decide +kernel
theorem dX12_keeps_67 : decode cX12_keeps 67 = .ok (.putfield 127, 3) := by decide +kernel
theorem dX12_keeps_70 : decode cX12_keeps 70 = .ok (.iconst 1, 1) := by decide +kernel
theorem dX12_keeps_71 : decode cX12_keeps 71 = .ok (.istore_n 2, 1) := by decide +kernel
theorem dX12_keeps_72 : decode cX12_keeps 72 = .ok (.iload_n 2, 1) := by decide +kernel
theorem dX12_keeps_73 : decode cX12_keeps 73 = .ok (.bipush 20, 2) := by decide +kernel
theorem dX12_keeps_75 : decode cX12_keeps 75 = .ok (.if_icmp .ge 25, 3) := by decide +kernel
theorem dX12_keeps_78 : decode cX12_keeps 78 = .ok (.aload_n 0, 1) := by decide +kernel
theorem dX12_keeps_79 : decode cX12_keeps 79 = .ok (.getfield 130, 3) := by decide +kernel
theorem dX12_keeps_82 : decode cX12_keeps 82 = .ok (.iload_n 2, 1) := by decide +kernel
theorem dX12_keeps_83 : decode cX12_keeps 83 = .ok (.iconst 1, 1) := by decide +kernel
theorem dX12_keeps_84 : decode cX12_keeps 84 = .ok (.isub, 1) := by decide +kernel
theorem dX12_keeps_85 : decode cX12_keeps 85 = .ok (.aload_n 0, 1) := by decide +kernel
theorem dX12_keeps_86 : decode cX12_keeps 86 = .ok (.getfield 130, 3) := by decide +kernel
theorem dX12_keeps_89 : decode cX12_keeps 89 = .ok (.iload_n 2, 1) := by decide +kernel
theorem dX12_keeps_90 : decode cX12_keeps 90 = .ok (.iaload, 1) := by decide +kernel
theorem dX12_keeps_91 : decode cX12_keeps 91 = .ok (.iload_n 1, 1) := by decide +kernel
theorem dX12_keeps_92 : decode cX12_keeps 92 = .ok (.isub, 1) := by decide +kernel
theorem dX12_keeps_93 : decode cX12_keeps 93 = .ok (.iastore, 1) := by decide +kernel
theorem dX12_keeps_94 : decode cX12_keeps 94 = .ok (.iinc 2 1, 3) := by decide +kernel
theorem dX12_keeps_97 : decode cX12_keeps 97 = .ok (.goto (-25), 3) := by decide +kernel
theorem dX12_keeps_100 : decode cX12_keeps 100 = .ok (.aload_n 0, 1) := by decide +kernel
theorem dX12_keeps_101 : decode cX12_keeps 101 = .ok (.dup, 1) := by decide +kernel
theorem dX12_keeps_102 : decode cX12_keeps 102 = .ok (.getfield 133, 3) := by decide +kernel
theorem dX12_keeps_105 : decode cX12_keeps 105 = .ok (.iconst 1, 1) := by decide +kernel
theorem dX12_keeps_106 : decode cX12_keeps 106 = .ok (.isub, 1) := by decide +kernel
theorem dX12_keeps_107 : decode cX12_keeps 107 = .ok (.putfield 133, 3) := by decide +kernel
theorem dX12_keeps_110 : decode cX12_keeps 110 = .ok (.aload_n 0, 1) := by decide +kernel
theorem dX12_keeps_111 : decode cX12_keeps 111 = .ok (.getfield 130, 3) := by decide +kernel
theorem dX12_keeps_114 : decode cX12_keeps 114 = .ok (.aload_n 0, 1) := by decide +kernel
theorem dX12_keeps_115 : decode cX12_keeps 115 = .ok (.getfield 133, 3) := by decide +kernel
theorem dX12_keeps_118 : decode cX12_keeps 118 = .ok (.aload_n 0, 1) := by decide +kernel
theorem dX12_keeps_119 : decode cX12_keeps 119 = .ok (.getfield 127, 3) := by decide +kernel
theorem dX12_keeps_122 : decode cX12_keeps 122 = .ok (.iastore, 1) := by decide +kernel
theorem dX12_keeps_123 : decode cX12_keeps 123 = .ok (.aload_n 0, 1) := by decide +kernel
theorem dX12_keeps_124 : decode cX12_keeps 124 = .ok (.dup, 1) := by decide +kernel
theorem dX12_keeps_125 : decode cX12_keeps 125 = .ok (.getfield 133, 3) := by decide +kernel
theorem dX12_keeps_128 : decode cX12_keeps 128 = .ok (.iconst 1, 1) := by decide +kernel
theorem dX12_keeps_129 : decode cX12_keeps 129 = .ok (.iadd, 1) := by decide +kernel
theorem dX12_keeps_130 : decode cX12_keeps 130 = .ok (.putfield 133, 3) := by decide +kernel
theorem dX12_keeps_133 : decode cX12_keeps 133 = .ok (.return_, 1) := by decide +kernel
abbrev MX12_keeps : MI := (RX12, cX12_keeps, 3, 1, false)
def lcX12_keeps_1 : Ex Bool := (ltI (lvI 2) (getI 12 37 (lvR 0)))
def lbX12_keeps_1 : St := (forB (seqS (astI (getR 12 35 (lvR 0)) (subI (lvI 2) (lvI 1)) (aldI 2 (getR 12 35 (lvR 0)) (lvI 2))) (astI (getR 12 36 (lvR 0)) (subI (lvI 2) (lvI 1)) (aldI 2 (getR 12 36 (lvR 0)) (lvI 2)))) (incI 2 (iI 1)))
def lcX12_keeps_2 : Ex Bool := (ltI (lvI 2) (ciI (iI 20)))
def lbX12_keeps_2 : St := (forB (astI (getR 12 38 (lvR 0)) (subI (lvI 2) (ciI (iI 1))) (subI (aldI 2 (getR 12 38 (lvR 0)) (lvI 2)) (lvI 1))) (incI 2 (iI 1)))
def bX12_keeps : St := (seqS (ifS (eqI (getI 12 39 (lvR 0)) (ciI (iI 20))) (scS 1 (seqS (lsI 1 (aldI 2 (getR 12 38 (lvR 0)) (ciI (iI 1)))) (seqS (scS 2 (seqS (lsI 2 (lvI 1)) (whileS lcX12_keeps_1 lbX12_keeps_1))) (seqS (updI 12 37 (fun x y => x - y) (lvR 0) (lvI 1)) (seqS (scS 2 (seqS (lsI 2 (ciI (iI 1))) (whileS lcX12_keeps_2 lbX12_keeps_2))) (updI 12 39 (fun x y => x - y) (lvR 0) (ciI (iI 1))))))))) (seqS (astI (getR 12 38 (lvR 0)) (getI 12 39 (lvR 0)) (getI 12 37 (lvR 0))) (seqS (updI 12 39 (fun x y => x + y) (lvR 0) (ciI (iI 1))) retV)))
theorem jX12_keeps : JS MX12_keeps 0 0 0 134 [] bX12_keeps :=
  (JS.seq (pc1 := 110) (JS.iff (l := 110) (pc1 := 9) (CJ.eq_f (tgt := 110) (pc1 := 4) (pc2 := 6) (JX.getI (pc1 := 1) (c := 12) (k := 39) (i := 133) (JX.al (k := 0) rfl dX12_keeps_0) cl12 (by decide) rfl fk12_133 dX12_keeps_1) (JX.bp (n := 20) kb20 dX12_keeps_4) dX12_keeps_6 rfl) (JS.sc (JS.seq (pc1 := 16) (JS.is (pc1 := 15) (k := 1) (JX.iald (pc1 := 13) (pc2 := 14) (JX.getR (pc1 := 10) (c := 12) (k := 38) (i := 130) (JX.al (k := 0) rfl dX12_keeps_9) cl12 (by decide) rfl fk12_130 dX12_keeps_10) (JX.ic (n := 1) rfl dX12_keeps_13) dX12_keeps_14) rfl (show 1 < 3 by decide) dX12_keeps_15) (JS.seq (pc1 := 60) (JS.sc (JS.seq (pc1 := 18) (JS.is (pc1 := 17) (k := 2) (JX.il (k := 1) rfl dX12_keeps_16) rfl (show 2 < 3 by decide) dX12_keeps_17) (JS.while (l := 60) (lb := 60) (pc1 := 26) (pc2 := 57) (pc3 := 60) (CJ.lt_f (tgt := 60) (pc1 := 19) (pc2 := 23) (JX.il (k := 2) rfl dX12_keeps_18) (JX.getI (pc1 := 20) (c := 12) (k := 37) (i := 127) (JX.al (k := 0) rfl dX12_keeps_19) cl12 (by decide) rfl fk12_127 dX12_keeps_20) dX12_keeps_23 rfl) (JS.forb (pc1 := 54) (JS.seq (pc1 := 40) (JS.ia (pc1 := 30) (pc2 := 33) (pc3 := 39) (JX.getR (pc1 := 27) (c := 12) (k := 35) (i := 121) (JX.al (k := 0) rfl dX12_keeps_26) cl12 (by decide) rfl fk12_121 dX12_keeps_27) (JX.isub (pc1 := 31) (pc2 := 32) (JX.il (k := 2) rfl dX12_keeps_30) (JX.il (k := 1) rfl dX12_keeps_31) dX12_keeps_32) (JX.iald (pc1 := 37) (pc2 := 38) (JX.getR (pc1 := 34) (c := 12) (k := 35) (i := 121) (JX.al (k := 0) rfl dX12_keeps_33) cl12 (by decide) rfl fk12_121 dX12_keeps_34) (JX.il (k := 2) rfl dX12_keeps_37) dX12_keeps_38) dX12_keeps_39) (JS.ia (pc1 := 44) (pc2 := 47) (pc3 := 53) (JX.getR (pc1 := 41) (c := 12) (k := 36) (i := 124) (JX.al (k := 0) rfl dX12_keeps_40) cl12 (by decide) rfl fk12_124 dX12_keeps_41) (JX.isub (pc1 := 45) (pc2 := 46) (JX.il (k := 2) rfl dX12_keeps_44) (JX.il (k := 1) rfl dX12_keeps_45) dX12_keeps_46) (JX.iald (pc1 := 51) (pc2 := 52) (JX.getR (pc1 := 48) (c := 12) (k := 36) (i := 124) (JX.al (k := 0) rfl dX12_keeps_47) cl12 (by decide) rfl fk12_124 dX12_keeps_48) (JX.il (k := 2) rfl dX12_keeps_51) dX12_keeps_52) dX12_keeps_53)) (JS.inc (n := 1) rfl (show 2 < 3 by decide) dX12_keeps_54)) dX12_keeps_57 rfl (Or.inl rfl) (Or.inl rfl)))) (JS.seq (pc1 := 70) (JS.upS (pc1 := 61) (pc2 := 66) (c := 12) (k := 37) (i := 127) (JX.al (k := 0) rfl dX12_keeps_60) dX12_keeps_61 cl12 (by decide) rfl fk12_127 (Or.inl rfl) dX12_keeps_62 (JX.il (k := 1) rfl dX12_keeps_65) dX12_keeps_66 dX12_keeps_67) (JS.seq (pc1 := 100) (JS.sc (JS.seq (pc1 := 72) (JS.is (pc1 := 71) (k := 2) (JX.ic (n := 1) rfl dX12_keeps_70) rfl (show 2 < 3 by decide) dX12_keeps_71) (JS.while (l := 100) (lb := 100) (pc1 := 78) (pc2 := 97) (pc3 := 100) (CJ.lt_f (tgt := 100) (pc1 := 73) (pc2 := 75) (JX.il (k := 2) rfl dX12_keeps_72) (JX.bp (n := 20) kb20 dX12_keeps_73) dX12_keeps_75 rfl) (JS.forb (pc1 := 94) (JS.ia (pc1 := 82) (pc2 := 85) (pc3 := 93) (JX.getR (pc1 := 79) (c := 12) (k := 38) (i := 130) (JX.al (k := 0) rfl dX12_keeps_78) cl12 (by decide) rfl fk12_130 dX12_keeps_79) (JX.isub (pc1 := 83) (pc2 := 84) (JX.il (k := 2) rfl dX12_keeps_82) (JX.ic (n := 1) rfl dX12_keeps_83) dX12_keeps_84) (JX.isub (pc1 := 91) (pc2 := 92) (JX.iald (pc1 := 89) (pc2 := 90) (JX.getR (pc1 := 86) (c := 12) (k := 38) (i := 130) (JX.al (k := 0) rfl dX12_keeps_85) cl12 (by decide) rfl fk12_130 dX12_keeps_86) (JX.il (k := 2) rfl dX12_keeps_89) dX12_keeps_90) (JX.il (k := 1) rfl dX12_keeps_91) dX12_keeps_92) dX12_keeps_93) (JS.inc (n := 1) rfl (show 2 < 3 by decide) dX12_keeps_94)) dX12_keeps_97 rfl (Or.inl rfl) (Or.inl rfl)))) (JS.upS (pc1 := 101) (pc2 := 106) (c := 12) (k := 39) (i := 133) (JX.al (k := 0) rfl dX12_keeps_100) dX12_keeps_101 cl12 (by decide) rfl fk12_133 (Or.inl rfl) dX12_keeps_102 (JX.ic (n := 1) rfl dX12_keeps_105) dX12_keeps_106 dX12_keeps_107)))))) (Or.inl rfl)) (JS.seq (pc1 := 123) (JS.ia (pc1 := 114) (pc2 := 118) (pc3 := 122) (JX.getR (pc1 := 111) (c := 12) (k := 38) (i := 130) (JX.al (k := 0) rfl dX12_keeps_110) cl12 (by decide) rfl fk12_130 dX12_keeps_111) (JX.getI (pc1 := 115) (c := 12) (k := 39) (i := 133) (JX.al (k := 0) rfl dX12_keeps_114) cl12 (by decide) rfl fk12_133 dX12_keeps_115) (JX.getI (pc1 := 119) (c := 12) (k := 37) (i := 127) (JX.al (k := 0) rfl dX12_keeps_118) cl12 (by decide) rfl fk12_127 dX12_keeps_119) dX12_keeps_122) (JS.seq (pc1 := 133) (JS.upA (pc1 := 124) (pc2 := 129) (c := 12) (k := 39) (i := 133) (JX.al (k := 0) rfl dX12_keeps_123) dX12_keeps_124 cl12 (by decide) rfl fk12_133 (Or.inl rfl) dX12_keeps_125 (JX.ic (n := 1) rfl dX12_keeps_128) dX12_keeps_129 dX12_keeps_130) (JS.retV dX12_keeps_133))))
def mX12_keeps : MS := runM 3 none bX12_keeps
theorem aX12_keeps : MA yX12_keeps cX12_keeps 3 none 1 mX12_keeps := MA.of (plainFor_of_name (by decide)) jX12_keeps
theorem eX12_keeps (a0 : Nat) (h : AH) : mX12_keeps [.ref a0] h = (bX12_keeps [.val (.ref a0), .unset, .unset] h).bind (finM none) := rfl
/-! PieceStoreModel.undo -/
theorem dX12_undo_0 : decode cX12_undo 0 = .ok (.aload_n 0, 1) := by decide +kernel
theorem dX12_undo_1 : decode cX12_undo 1 = .ok (.getfield 133, 3) := by decide +kernel
theorem dX12_undo_4 : decode cX12_undo 4 = .ok (.ifCond .ne 17, 3) := by decide +kernel
theorem dX12_undo_7 : decode cX12_undo 7 = .ok (.aload_n 0, 1) := by decide +kernel
theorem dX12_undo_8 : decode cX12_undo 8 = .ok (.iconst 4, 1) := by decide +kernel
theorem dX12_undo_9 : decode cX12_undo 9 = .ok (.invokevirtual 227, 3) := by decide +kernel
theorem dX12_undo_12 : decode cX12_undo 12 = .ok (.ifCond .lt 7, 3) := by decide +kernel
theorem dX12_undo_15 : decode cX12_undo 15 = .ok (.iconst 1, 1) := by decide +kernel
theorem dX12_undo_16 : decode cX12_undo 16 = .ok (.goto 4, 3) := by decide +kernel
theorem dX12_undo_19 : decode cX12_undo 19 = .ok (.iconst 0, 1) := by decide +kernel
theorem dX12_undo_20 : decode cX12_undo 20 = .ok (.ireturn, 1) := by decide +kernel
theorem dX12_undo_21 : decode cX12_undo 21 = .ok (.aload_n 0, 1) := by decide +kernel
theorem dX12_undo_22 : decode cX12_undo 22 = .ok (.dup, 1) := by decide +kernel
theorem dX12_undo_23 : decode cX12_undo 23 = .ok (.getfield 133, 3) := by decide +kernel
theorem dX12_undo_26 : decode cX12_undo 26 = .ok (.iconst 1, 1) := by decide +kernel
theorem dX12_undo_27 : decode cX12_undo 27 = .ok (.isub, 1) := by decide +kernel
theorem dX12_undo_28 : decode cX12_undo 28 = .ok (.putfield 133, 3) := by decide +kernel
theorem dX12_undo_31 : decode cX12_undo 31 = .ok (.aload_n 0, 1) := by decide +kernel
theorem dX12_undo_32 : decode cX12_undo 32 = .ok (.aload_n 0, 1) := by decide +kernel
theorem dX12_undo_33 : decode cX12_undo 33 = .ok (.getfield 130, 3) := by decide +kernel
theorem dX12_undo_36 : decode cX12_undo 36 = .ok (.aload_n 0, 1) := by decide +kernel
theorem dX12_undo_37 : decode cX12_undo 37 = .ok (.getfield 133, 3) := by decide +kernel
theorem dX12_undo_40 : decode cX12_undo 40 = .ok (.iaload, 1) := by decide +kernel
theorem dX12_undo_41 : decode cX12_undo 41 = .ok (.invokevirtual 389, 3) := by decide +kernel
theorem dX12_undo_44 : decode cX12_undo 44 = .ok (.iconst 1, 1) := by decide +kernel
theorem dX12_undo_45 : decode cX12_undo 45 = .ok (.ireturn, 1) := by decide +kernel
abbrev MX12_undo : MI := (RX12, cX12_undo, 1, 2, false)
def bX12_undo : St := (seqS (ifS (eq0 (getI 12 39 (lvR 0))) (retI (iteX (ge0 (calX decI (ckV 12 1) mX12_refuses (agC va_rf (lvR 0) (agC Value.int (ciI (iI 4)) agN)))) (ciI (iI 1)) (ciI (iI 0))))) (seqS (updI 12 39 (fun x y => x - y) (lvR 0) (ciI (iI 1))) (seqS (calS (ckV 12 1) mX12_takesBack (agC va_rf (lvR 0) (agC Value.int (aldI 2 (getR 12 38 (lvR 0)) (getI 12 39 (lvR 0))) agN))) (retI (ciI (iI 1))))))
theorem jX12_undo : JS MX12_undo 0 0 0 46 [] bX12_undo :=
  (JS.seq (pc1 := 21) (JS.iff (l := 21) (pc1 := 7) (CJ.eq0_f (tgt := 21) (pc1 := 4) (JX.getI (pc1 := 1) (c := 12) (k := 39) (i := 133) (JX.al (k := 0) rfl dX12_undo_0) cl12 (by decide) rfl fk12_133 dX12_undo_1) dX12_undo_4 rfl) (JS.retI (pc1 := 20) (JX.ite (l := 19) (pc1 := 15) (pc2 := 16) (pc3 := 20) (lend := 20) (CJ.ge0_f (tgt := 19) (pc1 := 12) (JX.call (pc1 := 9) decI_ok (JA.r (JX.al (k := 0) rfl dX12_undo_7) (JA.i (JX.ic (n := 4) rfl dX12_undo_8) JA.nil)) aX12_refuses (RunK.V (i := 227) (c := 12) (n := 1) cl12 rfl (CN nX12_refuses (by decide) (by decide)) gw1530 gw1532 gs54 dX12_undo_9) (by decide)) dX12_undo_12 rfl) (JX.ic (n := 1) rfl dX12_undo_15) dX12_undo_16 rfl (JX.ic (n := 0) rfl dX12_undo_19) (Or.inl rfl)) dX12_undo_20) (Or.inl rfl)) (JS.seq (pc1 := 31) (JS.upS (pc1 := 22) (pc2 := 27) (c := 12) (k := 39) (i := 133) (JX.al (k := 0) rfl dX12_undo_21) dX12_undo_22 cl12 (by decide) rfl fk12_133 (Or.inl rfl) dX12_undo_23 (JX.ic (n := 1) rfl dX12_undo_26) dX12_undo_27 dX12_undo_28) (JS.seq (pc1 := 44) (JS.call (pc1 := 41) (JA.r (JX.al (k := 0) rfl dX12_undo_31) (JA.i (JX.iald (pc1 := 36) (pc2 := 40) (JX.getR (pc1 := 33) (c := 12) (k := 38) (i := 130) (JX.al (k := 0) rfl dX12_undo_32) cl12 (by decide) rfl fk12_130 dX12_undo_33) (JX.getI (pc1 := 37) (c := 12) (k := 39) (i := 133) (JX.al (k := 0) rfl dX12_undo_36) cl12 (by decide) rfl fk12_133 dX12_undo_37) dX12_undo_40) JA.nil)) aX12_takesBack (RunK.V (i := 389) (c := 12) (n := 1) cl12 rfl (CN nX12_takesBack (by decide) (by decide)) gw1698 gw1700 gs80 dX12_undo_41)) (JS.retI (pc1 := 45) (JX.ic (n := 1) rfl dX12_undo_44) dX12_undo_45))))
def mX12_undo : MS := runM 1 (some (.boolean)) bX12_undo
theorem aX12_undo : MA yX12_undo cX12_undo 1 (some (.boolean)) 2 mX12_undo := MA.of (plainFor_of_name (by decide)) jX12_undo
theorem eX12_undo (a0 : Nat) (h : AH) : mX12_undo [.ref a0] h = (bX12_undo [.val (.ref a0)] h).bind (finM (some (.boolean))) := rfl
/-! PieceStoreModel.within -/
theorem dX12_within_0 : decode cX12_within 0 = .ok (.lload_n 0, 1) := by decide +kernel
theorem dX12_within_1 : decode cX12_within 1 = .ok (.ldc2_w 392, 3) := by decide +kernel
theorem dX12_within_4 : decode cX12_within 4 = .ok (.lcmp, 1) := by decide +kernel
theorem dX12_within_5 : decode cX12_within 5 = .ok (.ifCond .le 9, 3) := by decide +kernel
theorem dX12_within_8 : decode cX12_within 8 = .ok (.ldc2_w 392, 3) := by decide +kernel
theorem dX12_within_11 : decode cX12_within 11 = .ok (.goto 18, 3) := by decide +kernel
theorem dX12_within_14 : decode cX12_within 14 = .ok (.lload_n 0, 1) := by decide +kernel
theorem dX12_within_15 : decode cX12_within 15 = .ok (.ldc2_w 394, 3) := by decide +kernel
theorem dX12_within_18 : decode cX12_within 18 = .ok (.lcmp, 1) := by decide +kernel
theorem dX12_within_19 : decode cX12_within 19 = .ok (.ifCond .ge 9, 3) := by decide +kernel
theorem dX12_within_22 : decode cX12_within 22 = .ok (.ldc2_w 394, 3) := by decide +kernel
theorem dX12_within_25 : decode cX12_within 25 = .ok (.goto 4, 3) := by decide +kernel
theorem dX12_within_28 : decode cX12_within 28 = .ok (.lload_n 0, 1) := by decide +kernel
theorem dX12_within_29 : decode cX12_within 29 = .ok (.lreturn, 1) := by decide +kernel
abbrev MX12_within : MI := (RX12, cX12_within, 2, 1, false)
def bX12_within : St := (retL (iteX (gtL (lvL 0) (clL (lI 1000000))) (clL (lI 1000000)) (iteX (ltL (lvL 0) (clL (lI (-1000000)))) (clL (lI (-1000000))) (lvL 0))))
theorem jX12_within : JS MX12_within 0 0 0 30 [] bX12_within :=
  (JS.retL (pc1 := 29) (JX.ite (l := 14) (pc1 := 8) (pc2 := 11) (pc3 := 29) (lend := 29) (CJ.gtL_f (tgt := 14) (pc1 := 1) (pc2 := 4) (JX.ll (k := 0) rfl dX12_within_0) (JX.ld2K (i := 392) (by decide) gw1744 dX12_within_1) dX12_within_4 dX12_within_5 rfl) (JX.ld2K (i := 392) (by decide) gw1744 dX12_within_8) dX12_within_11 rfl (JX.ite (l := 28) (pc1 := 22) (pc2 := 25) (pc3 := 29) (lend := 29) (CJ.ltL_f (tgt := 28) (pc1 := 15) (pc2 := 18) (JX.ll (k := 0) rfl dX12_within_14) (JX.ld2K (i := 394) (by decide) gw1745 dX12_within_15) dX12_within_18 dX12_within_19 rfl) (JX.ld2K (i := 394) (by decide) gw1745 dX12_within_22) dX12_within_25 rfl (JX.ll (k := 0) rfl dX12_within_28) (Or.inl rfl)) (Or.inl rfl)) dX12_within_29)
def mX12_within : MS := runM 2 (some (.long)) bX12_within
theorem aX12_within : MA yX12_within cX12_within 2 (some (.long)) 1 mX12_within := MA.of (plainFor_of_name (by decide)) jX12_within
theorem eX12_within (a0 : Int64) (h : AH) : mX12_within [.long a0] h = (bX12_within [.val (.long a0), .second] h).bind (finM (some (.long))) := rfl
/-! PieceStoreModel.floor -/
theorem dX12_floor_0 : decode cX12_floor 0 = .ok (.lload_n 2, 1) := by decide +kernel
theorem dX12_floor_1 : decode cX12_floor 1 = .ok (.lconst 0, 1) := by decide +kernel
theorem dX12_floor_2 : decode cX12_floor 2 = .ok (.lcmp, 1) := by decide +kernel
theorem dX12_floor_3 : decode cX12_floor 3 = .ok (.ifCond .ne 5, 3) := by decide +kernel
theorem dX12_floor_6 : decode cX12_floor 6 = .ok (.lconst 0, 1) := by decide +kernel
theorem dX12_floor_7 : decode cX12_floor 7 = .ok (.lreturn, 1) := by decide +kernel
theorem dX12_floor_8 : decode cX12_floor 8 = .ok (.lload_n 0, 1) := by decide +kernel
theorem dX12_floor_9 : decode cX12_floor 9 = .ok (.lload_n 2, 1) := by decide +kernel
theorem dX12_floor_10 : decode cX12_floor 10 = .ok (.ldiv, 1) := by decide +kernel
theorem dX12_floor_11 : decode cX12_floor 11 = .ok (.lstore 4, 2) := by decide +kernel
theorem dX12_floor_13 : decode cX12_floor 13 = .ok (.lload_n 0, 1) := by decide +kernel
theorem dX12_floor_14 : decode cX12_floor 14 = .ok (.lload_n 2, 1) := by decide +kernel
theorem dX12_floor_15 : decode cX12_floor 15 = .ok (.lrem, 1) := by decide +kernel
theorem dX12_floor_16 : decode cX12_floor 16 = .ok (.lconst 0, 1) := by decide +kernel
theorem dX12_floor_17 : decode cX12_floor 17 = .ok (.lcmp, 1) := by decide +kernel
theorem dX12_floor_18 : decode cX12_floor 18 = .ok (.ifCond .eq 35, 3) := by decide +kernel
theorem dX12_floor_21 : decode cX12_floor 21 = .ok (.lload_n 0, 1) := by decide +kernel
theorem dX12_floor_22 : decode cX12_floor 22 = .ok (.lconst 0, 1) := by decide +kernel
theorem dX12_floor_23 : decode cX12_floor 23 = .ok (.lcmp, 1) := by decide +kernel
theorem dX12_floor_24 : decode cX12_floor 24 = .ok (.ifCond .ge 7, 3) := by decide +kernel
theorem dX12_floor_27 : decode cX12_floor 27 = .ok (.iconst 1, 1) := by decide +kernel
theorem dX12_floor_28 : decode cX12_floor 28 = .ok (.goto 4, 3) := by decide +kernel
theorem dX12_floor_31 : decode cX12_floor 31 = .ok (.iconst 0, 1) := by decide +kernel
theorem dX12_floor_32 : decode cX12_floor 32 = .ok (.lload_n 2, 1) := by decide +kernel
theorem dX12_floor_33 : decode cX12_floor 33 = .ok (.lconst 0, 1) := by decide +kernel
theorem dX12_floor_34 : decode cX12_floor 34 = .ok (.lcmp, 1) := by decide +kernel
theorem dX12_floor_35 : decode cX12_floor 35 = .ok (.ifCond .ge 7, 3) := by decide +kernel
theorem dX12_floor_38 : decode cX12_floor 38 = .ok (.iconst 1, 1) := by decide +kernel
theorem dX12_floor_39 : decode cX12_floor 39 = .ok (.goto 4, 3) := by decide +kernel
theorem dX12_floor_42 : decode cX12_floor 42 = .ok (.iconst 0, 1) := by decide +kernel
theorem dX12_floor_43 : decode cX12_floor 43 = .ok (.if_icmp .eq 10, 3) := by decide +kernel
theorem dX12_floor_46 : decode cX12_floor 46 = .ok (.lload 4, 2) := by decide +kernel
theorem dX12_floor_48 : decode cX12_floor 48 = .ok (.lconst 1, 1) := by decide +kernel
theorem dX12_floor_49 : decode cX12_floor 49 = .ok (.lsub, 1) := by decide +kernel
theorem dX12_floor_50 : decode cX12_floor 50 = .ok (.goto 5, 3) := by decide +kernel
theorem dX12_floor_53 : decode cX12_floor 53 = .ok (.lload 4, 2) := by decide +kernel
theorem dX12_floor_55 : decode cX12_floor 55 = .ok (.lreturn, 1) := by decide +kernel
abbrev MX12_floor : MI := (RX12, cX12_floor, 6, 1, false)
def bX12_floor : St := (seqS (ifS (eqL (lvL 2) (clL (lI 0))) (retL (clL (lI 0)))) (seqS (lsL 4 (divL (lvL 0) (lvL 2))) (retL (iteX (andX (neL (remL (lvL 0) (lvL 2)) (clL (lI 0))) (neI (iteX (ltL (lvL 0) (clL (lI 0))) (ciI (iI 1)) (ciI (iI 0))) (iteX (ltL (lvL 2) (clL (lI 0))) (ciI (iI 1)) (ciI (iI 0))))) (subL (lvL 4) (clL (lI 1))) (lvL 4)))))
theorem jX12_floor : JS MX12_floor 0 0 0 56 [] bX12_floor :=
  (JS.seq (pc1 := 8) (JS.iff (l := 8) (pc1 := 6) (CJ.eqL_f (tgt := 8) (pc1 := 1) (pc2 := 2) (JX.ll (k := 2) rfl dX12_floor_0) (JX.lc (n := 0) (v := lI 0) rfl dX12_floor_1) dX12_floor_2 dX12_floor_3 rfl) (JS.retL (pc1 := 7) (JX.lc (n := 0) (v := lI 0) rfl dX12_floor_6) dX12_floor_7) (Or.inl rfl)) (JS.seq (pc1 := 13) (JS.ls2 (pc1 := 11) (JX.ldiv (pc1 := 9) (pc2 := 10) (JX.ll (k := 0) rfl dX12_floor_8) (JX.ll (k := 2) rfl dX12_floor_9) dX12_floor_10) (show 4 + 1 < 6 by decide) dX12_floor_11) (JS.retL (pc1 := 55) (JX.ite (l := 53) (pc1 := 46) (pc2 := 50) (pc3 := 55) (lend := 55) (CJ.and_f (pc1 := 21) (CJ.neL_f (tgt := 53) (pc1 := 16) (pc2 := 17) (JX.lrem (pc1 := 14) (pc2 := 15) (JX.ll (k := 0) rfl dX12_floor_13) (JX.ll (k := 2) rfl dX12_floor_14) dX12_floor_15) (JX.lc (n := 0) (v := lI 0) rfl dX12_floor_16) dX12_floor_17 dX12_floor_18 rfl) (CJ.ne_f (tgt := 53) (pc1 := 32) (pc2 := 43) (JX.ite (l := 31) (pc1 := 27) (pc2 := 28) (pc3 := 32) (lend := 32) (CJ.ltL_f (tgt := 31) (pc1 := 22) (pc2 := 23) (JX.ll (k := 0) rfl dX12_floor_21) (JX.lc (n := 0) (v := lI 0) rfl dX12_floor_22) dX12_floor_23 dX12_floor_24 rfl) (JX.ic (n := 1) rfl dX12_floor_27) dX12_floor_28 rfl (JX.ic (n := 0) rfl dX12_floor_31) (Or.inl rfl)) (JX.ite (l := 42) (pc1 := 38) (pc2 := 39) (pc3 := 43) (lend := 43) (CJ.ltL_f (tgt := 42) (pc1 := 33) (pc2 := 34) (JX.ll (k := 2) rfl dX12_floor_32) (JX.lc (n := 0) (v := lI 0) rfl dX12_floor_33) dX12_floor_34 dX12_floor_35 rfl) (JX.ic (n := 1) rfl dX12_floor_38) dX12_floor_39 rfl (JX.ic (n := 0) rfl dX12_floor_42) (Or.inl rfl)) dX12_floor_43 rfl)) (JX.lsub (pc1 := 48) (pc2 := 49) (JX.ll2 dX12_floor_46) (JX.lc (n := 1) (v := lI 1) rfl dX12_floor_48) dX12_floor_49) dX12_floor_50 rfl (JX.ll2 dX12_floor_53) (Or.inl rfl)) dX12_floor_55)))
def mX12_floor : MS := runM 6 (some (.long)) bX12_floor
theorem aX12_floor : MA yX12_floor cX12_floor 6 (some (.long)) 1 mX12_floor := MA.of (plainFor_of_name (by decide)) jX12_floor
theorem eX12_floor (a0 : Int64) (a1 : Int64) (h : AH) : mX12_floor [.long a0, .long a1] h = (bX12_floor [.val (.long a0), .second, .val (.long a1), .second, .unset, .unset] h).bind (finM (some (.long))) := rfl
/-! PieceStoreModel.two -/
theorem dX12_two_0 : decode cX12_two 0 = .ok (.iload_n 0, 1) := by decide +kernel
theorem dX12_two_1 : decode cX12_two 1 = .ok (.tableswitch 176 31 41 #[59, 66, 73, 80, 89, 112, 124, 136, 148, 160, 172], 59) := by decide +kernel
theorem dX12_two_60 : decode cX12_two 60 = .ok (.lload_n 1, 1) := by decide +kernel
theorem dX12_two_61 : decode cX12_two 61 = .ok (.lload_n 3, 1) := by decide +kernel
theorem dX12_two_62 : decode cX12_two 62 = .ok (.ladd, 1) := by decide +kernel
theorem dX12_two_63 : decode cX12_two 63 = .ok (.invokestatic 396, 3) := by decide +kernel
theorem dX12_two_66 : decode cX12_two 66 = .ok (.lreturn, 1) := by decide +kernel
theorem dX12_two_67 : decode cX12_two 67 = .ok (.lload_n 1, 1) := by decide +kernel
theorem dX12_two_68 : decode cX12_two 68 = .ok (.lload_n 3, 1) := by decide +kernel
theorem dX12_two_69 : decode cX12_two 69 = .ok (.lsub, 1) := by decide +kernel
theorem dX12_two_70 : decode cX12_two 70 = .ok (.invokestatic 396, 3) := by decide +kernel
theorem dX12_two_73 : decode cX12_two 73 = .ok (.lreturn, 1) := by decide +kernel
theorem dX12_two_74 : decode cX12_two 74 = .ok (.lload_n 1, 1) := by decide +kernel
theorem dX12_two_75 : decode cX12_two 75 = .ok (.lload_n 3, 1) := by decide +kernel
theorem dX12_two_76 : decode cX12_two 76 = .ok (.lmul, 1) := by decide +kernel
theorem dX12_two_77 : decode cX12_two 77 = .ok (.invokestatic 396, 3) := by decide +kernel
theorem dX12_two_80 : decode cX12_two 80 = .ok (.lreturn, 1) := by decide +kernel
theorem dX12_two_81 : decode cX12_two 81 = .ok (.lload_n 1, 1) := by decide +kernel
theorem dX12_two_82 : decode cX12_two 82 = .ok (.lload_n 3, 1) := by decide +kernel
theorem dX12_two_83 : decode cX12_two 83 = .ok (.invokestatic 400, 3) := by decide +kernel
theorem dX12_two_86 : decode cX12_two 86 = .ok (.invokestatic 396, 3) := by decide +kernel
theorem dX12_two_89 : decode cX12_two 89 = .ok (.lreturn, 1) := by decide +kernel
theorem dX12_two_90 : decode cX12_two 90 = .ok (.lload_n 3, 1) := by decide +kernel
theorem dX12_two_91 : decode cX12_two 91 = .ok (.lconst 0, 1) := by decide +kernel
theorem dX12_two_92 : decode cX12_two 92 = .ok (.lcmp, 1) := by decide +kernel
theorem dX12_two_93 : decode cX12_two 93 = .ok (.ifCond .ne 7, 3) := by decide +kernel
theorem dX12_two_96 : decode cX12_two 96 = .ok (.lconst 0, 1) := by decide +kernel
theorem dX12_two_97 : decode cX12_two 97 = .ok (.goto 15, 3) := by decide +kernel
theorem dX12_two_100 : decode cX12_two 100 = .ok (.lload_n 1, 1) := by decide +kernel
theorem dX12_two_101 : decode cX12_two 101 = .ok (.lload_n 3, 1) := by decide +kernel
theorem dX12_two_102 : decode cX12_two 102 = .ok (.lload_n 1, 1) := by decide +kernel
theorem dX12_two_103 : decode cX12_two 103 = .ok (.lload_n 3, 1) := by decide +kernel
theorem dX12_two_104 : decode cX12_two 104 = .ok (.invokestatic 400, 3) := by decide +kernel
theorem dX12_two_107 : decode cX12_two 107 = .ok (.lmul, 1) := by decide +kernel
theorem dX12_two_108 : decode cX12_two 108 = .ok (.lsub, 1) := by decide +kernel
theorem dX12_two_109 : decode cX12_two 109 = .ok (.invokestatic 396, 3) := by decide +kernel
theorem dX12_two_112 : decode cX12_two 112 = .ok (.lreturn, 1) := by decide +kernel
theorem dX12_two_113 : decode cX12_two 113 = .ok (.lload_n 1, 1) := by decide +kernel
theorem dX12_two_114 : decode cX12_two 114 = .ok (.lload_n 3, 1) := by decide +kernel
theorem dX12_two_115 : decode cX12_two 115 = .ok (.lcmp, 1) := by decide +kernel
theorem dX12_two_116 : decode cX12_two 116 = .ok (.ifCond .ge 7, 3) := by decide +kernel
theorem dX12_two_119 : decode cX12_two 119 = .ok (.lload_n 1, 1) := by decide +kernel
theorem dX12_two_120 : decode cX12_two 120 = .ok (.goto 4, 3) := by decide +kernel
theorem dX12_two_123 : decode cX12_two 123 = .ok (.lload_n 3, 1) := by decide +kernel
theorem dX12_two_124 : decode cX12_two 124 = .ok (.lreturn, 1) := by decide +kernel
theorem dX12_two_125 : decode cX12_two 125 = .ok (.lload_n 1, 1) := by decide +kernel
theorem dX12_two_126 : decode cX12_two 126 = .ok (.lload_n 3, 1) := by decide +kernel
theorem dX12_two_127 : decode cX12_two 127 = .ok (.lcmp, 1) := by decide +kernel
theorem dX12_two_128 : decode cX12_two 128 = .ok (.ifCond .le 7, 3) := by decide +kernel
theorem dX12_two_131 : decode cX12_two 131 = .ok (.lload_n 1, 1) := by decide +kernel
theorem dX12_two_132 : decode cX12_two 132 = .ok (.goto 4, 3) := by decide +kernel
theorem dX12_two_135 : decode cX12_two 135 = .ok (.lload_n 3, 1) := by decide +kernel
theorem dX12_two_136 : decode cX12_two 136 = .ok (.lreturn, 1) := by decide +kernel
theorem dX12_two_137 : decode cX12_two 137 = .ok (.lload_n 1, 1) := by decide +kernel
theorem dX12_two_138 : decode cX12_two 138 = .ok (.lload_n 3, 1) := by decide +kernel
theorem dX12_two_139 : decode cX12_two 139 = .ok (.lcmp, 1) := by decide +kernel
theorem dX12_two_140 : decode cX12_two 140 = .ok (.ifCond .ge 7, 3) := by decide +kernel
theorem dX12_two_143 : decode cX12_two 143 = .ok (.lconst 1, 1) := by decide +kernel
theorem dX12_two_144 : decode cX12_two 144 = .ok (.goto 4, 3) := by decide +kernel
theorem dX12_two_147 : decode cX12_two 147 = .ok (.lconst 0, 1) := by decide +kernel
theorem dX12_two_148 : decode cX12_two 148 = .ok (.lreturn, 1) := by decide +kernel
theorem dX12_two_149 : decode cX12_two 149 = .ok (.lload_n 1, 1) := by decide +kernel
theorem dX12_two_150 : decode cX12_two 150 = .ok (.lload_n 3, 1) := by decide +kernel
theorem dX12_two_151 : decode cX12_two 151 = .ok (.lcmp, 1) := by decide +kernel
theorem dX12_two_152 : decode cX12_two 152 = .ok (.ifCond .le 7, 3) := by decide +kernel
theorem dX12_two_155 : decode cX12_two 155 = .ok (.lconst 1, 1) := by decide +kernel
theorem dX12_two_156 : decode cX12_two 156 = .ok (.goto 4, 3) := by decide +kernel
theorem dX12_two_159 : decode cX12_two 159 = .ok (.lconst 0, 1) := by decide +kernel
theorem dX12_two_160 : decode cX12_two 160 = .ok (.lreturn, 1) := by decide +kernel
theorem dX12_two_161 : decode cX12_two 161 = .ok (.lload_n 1, 1) := by decide +kernel
theorem dX12_two_162 : decode cX12_two 162 = .ok (.lload_n 3, 1) := by decide +kernel
theorem dX12_two_163 : decode cX12_two 163 = .ok (.lcmp, 1) := by decide +kernel
theorem dX12_two_164 : decode cX12_two 164 = .ok (.ifCond .ne 7, 3) := by decide +kernel
theorem dX12_two_167 : decode cX12_two 167 = .ok (.lconst 1, 1) := by decide +kernel
theorem dX12_two_168 : decode cX12_two 168 = .ok (.goto 4, 3) := by decide +kernel
theorem dX12_two_171 : decode cX12_two 171 = .ok (.lconst 0, 1) := by decide +kernel
theorem dX12_two_172 : decode cX12_two 172 = .ok (.lreturn, 1) := by decide +kernel
theorem dX12_two_173 : decode cX12_two 173 = .ok (.lload_n 1, 1) := by decide +kernel
theorem dX12_two_174 : decode cX12_two 174 = .ok (.lload_n 3, 1) := by decide +kernel
theorem dX12_two_175 : decode cX12_two 175 = .ok (.land, 1) := by decide +kernel
theorem dX12_two_176 : decode cX12_two 176 = .ok (.lreturn, 1) := by decide +kernel
theorem dX12_two_177 : decode cX12_two 177 = .ok (.lload_n 1, 1) := by decide +kernel
theorem dX12_two_178 : decode cX12_two 178 = .ok (.lload_n 3, 1) := by decide +kernel
theorem dX12_two_179 : decode cX12_two 179 = .ok (.lor, 1) := by decide +kernel
theorem dX12_two_180 : decode cX12_two 180 = .ok (.lreturn, 1) := by decide +kernel
abbrev MX12_two : MI := (RX12, cX12_two, 5, 2, false)
def swX12_two_1 (x : Int32) : St := if x = iI 31 then (retL (calX decL (ckS 1) mX12_within (agC Value.long (addL (lvL 1) (lvL 3)) agN))) else if x = iI 32 then (retL (calX decL (ckS 1) mX12_within (agC Value.long (subL (lvL 1) (lvL 3)) agN))) else if x = iI 33 then (retL (calX decL (ckS 1) mX12_within (agC Value.long (mulL (lvL 1) (lvL 3)) agN))) else if x = iI 34 then (retL (calX decL (ckS 1) mX12_within (agC Value.long (calX decL (ckS 2) mX12_floor (agC Value.long (lvL 1) (agC Value.long (lvL 3) agN))) agN))) else if x = iI 35 then (retL (iteX (eqL (lvL 3) (clL (lI 0))) (clL (lI 0)) (calX decL (ckS 1) mX12_within (agC Value.long (subL (lvL 1) (mulL (lvL 3) (calX decL (ckS 2) mX12_floor (agC Value.long (lvL 1) (agC Value.long (lvL 3) agN))))) agN)))) else if x = iI 36 then (retL (iteX (ltL (lvL 1) (lvL 3)) (lvL 1) (lvL 3))) else if x = iI 37 then (retL (iteX (gtL (lvL 1) (lvL 3)) (lvL 1) (lvL 3))) else if x = iI 38 then (retL (iteX (ltL (lvL 1) (lvL 3)) (clL (lI 1)) (clL (lI 0)))) else if x = iI 39 then (retL (iteX (gtL (lvL 1) (lvL 3)) (clL (lI 1)) (clL (lI 0)))) else if x = iI 40 then (retL (iteX (eqL (lvL 1) (lvL 3)) (clL (lI 1)) (clL (lI 0)))) else if x = iI 41 then (retL (andL (lvL 1) (lvL 3))) else (retL (orL (lvL 1) (lvL 3)))
def bX12_two : St := (swS (lvI 0) swX12_two_1)
theorem swX12_two_1_ok : ∀ x, ∃ tgt pcx, TSw MX12_two.2.1 1 x tgt ∧ JS MX12_two 181 0 tgt pcx [] (swX12_two_1 x) ∧ Dead (swX12_two_1 x) := by
  intro x
  unfold swX12_two_1
  by_cases h31 : x = iI 31
  · subst h31
    rw [if_pos rfl]
    refine ⟨60, 67, ?_, (JS.retL (pc1 := 66) (JX.call (pc1 := 63) decL_ok (JA.l (JX.ladd (pc1 := 61) (pc2 := 62) (JX.ll (k := 1) rfl dX12_two_60) (JX.ll (k := 3) rfl dX12_two_61) dX12_two_62) JA.nil) aX12_within (RunK.S (i := 396) (n := 1) (CN nX12_within (by decide) (by decide)) gw1741 gw1742 dX12_two_63) (by decide)) dX12_two_66), dead_retL⟩
    exact TSw.tab_in (off := 59) dX12_two_1 (by decide) (by decide) rfl rfl
  by_cases h32 : x = iI 32
  · subst h32
    rw [if_neg (by decide)]
    rw [if_pos rfl]
    refine ⟨67, 74, ?_, (JS.retL (pc1 := 73) (JX.call (pc1 := 70) decL_ok (JA.l (JX.lsub (pc1 := 68) (pc2 := 69) (JX.ll (k := 1) rfl dX12_two_67) (JX.ll (k := 3) rfl dX12_two_68) dX12_two_69) JA.nil) aX12_within (RunK.S (i := 396) (n := 1) (CN nX12_within (by decide) (by decide)) gw1741 gw1742 dX12_two_70) (by decide)) dX12_two_73), dead_retL⟩
    exact TSw.tab_in (off := 66) dX12_two_1 (by decide) (by decide) rfl rfl
  by_cases h33 : x = iI 33
  · subst h33
    rw [if_neg (by decide)]
    rw [if_neg (by decide)]
    rw [if_pos rfl]
    refine ⟨74, 81, ?_, (JS.retL (pc1 := 80) (JX.call (pc1 := 77) decL_ok (JA.l (JX.lmul (pc1 := 75) (pc2 := 76) (JX.ll (k := 1) rfl dX12_two_74) (JX.ll (k := 3) rfl dX12_two_75) dX12_two_76) JA.nil) aX12_within (RunK.S (i := 396) (n := 1) (CN nX12_within (by decide) (by decide)) gw1741 gw1742 dX12_two_77) (by decide)) dX12_two_80), dead_retL⟩
    exact TSw.tab_in (off := 73) dX12_two_1 (by decide) (by decide) rfl rfl
  by_cases h34 : x = iI 34
  · subst h34
    rw [if_neg (by decide)]
    rw [if_neg (by decide)]
    rw [if_neg (by decide)]
    rw [if_pos rfl]
    refine ⟨81, 90, ?_, (JS.retL (pc1 := 89) (JX.call (pc1 := 86) decL_ok (JA.l (JX.call (pc1 := 83) decL_ok (JA.l (JX.ll (k := 1) rfl dX12_two_81) (JA.l (JX.ll (k := 3) rfl dX12_two_82) JA.nil)) aX12_floor (RunK.S (i := 400) (n := 2) (CN nX12_floor (by decide) (by decide)) gw1746 gw1747 dX12_two_83) (by decide)) JA.nil) aX12_within (RunK.S (i := 396) (n := 1) (CN nX12_within (by decide) (by decide)) gw1741 gw1742 dX12_two_86) (by decide)) dX12_two_89), dead_retL⟩
    exact TSw.tab_in (off := 80) dX12_two_1 (by decide) (by decide) rfl rfl
  by_cases h35 : x = iI 35
  · subst h35
    rw [if_neg (by decide)]
    rw [if_neg (by decide)]
    rw [if_neg (by decide)]
    rw [if_neg (by decide)]
    rw [if_pos rfl]
    refine ⟨90, 113, ?_, (JS.retL (pc1 := 112) (JX.ite (l := 100) (pc1 := 96) (pc2 := 97) (pc3 := 112) (lend := 112) (CJ.eqL_f (tgt := 100) (pc1 := 91) (pc2 := 92) (JX.ll (k := 3) rfl dX12_two_90) (JX.lc (n := 0) (v := lI 0) rfl dX12_two_91) dX12_two_92 dX12_two_93 rfl) (JX.lc (n := 0) (v := lI 0) rfl dX12_two_96) dX12_two_97 rfl (JX.call (pc1 := 109) decL_ok (JA.l (JX.lsub (pc1 := 101) (pc2 := 108) (JX.ll (k := 1) rfl dX12_two_100) (JX.lmul (pc1 := 102) (pc2 := 107) (JX.ll (k := 3) rfl dX12_two_101) (JX.call (pc1 := 104) decL_ok (JA.l (JX.ll (k := 1) rfl dX12_two_102) (JA.l (JX.ll (k := 3) rfl dX12_two_103) JA.nil)) aX12_floor (RunK.S (i := 400) (n := 2) (CN nX12_floor (by decide) (by decide)) gw1746 gw1747 dX12_two_104) (by decide)) dX12_two_107) dX12_two_108) JA.nil) aX12_within (RunK.S (i := 396) (n := 1) (CN nX12_within (by decide) (by decide)) gw1741 gw1742 dX12_two_109) (by decide)) (Or.inl rfl)) dX12_two_112), dead_retL⟩
    exact TSw.tab_in (off := 89) dX12_two_1 (by decide) (by decide) rfl rfl
  by_cases h36 : x = iI 36
  · subst h36
    rw [if_neg (by decide)]
    rw [if_neg (by decide)]
    rw [if_neg (by decide)]
    rw [if_neg (by decide)]
    rw [if_neg (by decide)]
    rw [if_pos rfl]
    refine ⟨113, 125, ?_, (JS.retL (pc1 := 124) (JX.ite (l := 123) (pc1 := 119) (pc2 := 120) (pc3 := 124) (lend := 124) (CJ.ltL_f (tgt := 123) (pc1 := 114) (pc2 := 115) (JX.ll (k := 1) rfl dX12_two_113) (JX.ll (k := 3) rfl dX12_two_114) dX12_two_115 dX12_two_116 rfl) (JX.ll (k := 1) rfl dX12_two_119) dX12_two_120 rfl (JX.ll (k := 3) rfl dX12_two_123) (Or.inl rfl)) dX12_two_124), dead_retL⟩
    exact TSw.tab_in (off := 112) dX12_two_1 (by decide) (by decide) rfl rfl
  by_cases h37 : x = iI 37
  · subst h37
    rw [if_neg (by decide)]
    rw [if_neg (by decide)]
    rw [if_neg (by decide)]
    rw [if_neg (by decide)]
    rw [if_neg (by decide)]
    rw [if_neg (by decide)]
    rw [if_pos rfl]
    refine ⟨125, 137, ?_, (JS.retL (pc1 := 136) (JX.ite (l := 135) (pc1 := 131) (pc2 := 132) (pc3 := 136) (lend := 136) (CJ.gtL_f (tgt := 135) (pc1 := 126) (pc2 := 127) (JX.ll (k := 1) rfl dX12_two_125) (JX.ll (k := 3) rfl dX12_two_126) dX12_two_127 dX12_two_128 rfl) (JX.ll (k := 1) rfl dX12_two_131) dX12_two_132 rfl (JX.ll (k := 3) rfl dX12_two_135) (Or.inl rfl)) dX12_two_136), dead_retL⟩
    exact TSw.tab_in (off := 124) dX12_two_1 (by decide) (by decide) rfl rfl
  by_cases h38 : x = iI 38
  · subst h38
    rw [if_neg (by decide)]
    rw [if_neg (by decide)]
    rw [if_neg (by decide)]
    rw [if_neg (by decide)]
    rw [if_neg (by decide)]
    rw [if_neg (by decide)]
    rw [if_neg (by decide)]
    rw [if_pos rfl]
    refine ⟨137, 149, ?_, (JS.retL (pc1 := 148) (JX.ite (l := 147) (pc1 := 143) (pc2 := 144) (pc3 := 148) (lend := 148) (CJ.ltL_f (tgt := 147) (pc1 := 138) (pc2 := 139) (JX.ll (k := 1) rfl dX12_two_137) (JX.ll (k := 3) rfl dX12_two_138) dX12_two_139 dX12_two_140 rfl) (JX.lc (n := 1) (v := lI 1) rfl dX12_two_143) dX12_two_144 rfl (JX.lc (n := 0) (v := lI 0) rfl dX12_two_147) (Or.inl rfl)) dX12_two_148), dead_retL⟩
    exact TSw.tab_in (off := 136) dX12_two_1 (by decide) (by decide) rfl rfl
  by_cases h39 : x = iI 39
  · subst h39
    rw [if_neg (by decide)]
    rw [if_neg (by decide)]
    rw [if_neg (by decide)]
    rw [if_neg (by decide)]
    rw [if_neg (by decide)]
    rw [if_neg (by decide)]
    rw [if_neg (by decide)]
    rw [if_neg (by decide)]
    rw [if_pos rfl]
    refine ⟨149, 161, ?_, (JS.retL (pc1 := 160) (JX.ite (l := 159) (pc1 := 155) (pc2 := 156) (pc3 := 160) (lend := 160) (CJ.gtL_f (tgt := 159) (pc1 := 150) (pc2 := 151) (JX.ll (k := 1) rfl dX12_two_149) (JX.ll (k := 3) rfl dX12_two_150) dX12_two_151 dX12_two_152 rfl) (JX.lc (n := 1) (v := lI 1) rfl dX12_two_155) dX12_two_156 rfl (JX.lc (n := 0) (v := lI 0) rfl dX12_two_159) (Or.inl rfl)) dX12_two_160), dead_retL⟩
    exact TSw.tab_in (off := 148) dX12_two_1 (by decide) (by decide) rfl rfl
  by_cases h40 : x = iI 40
  · subst h40
    rw [if_neg (by decide)]
    rw [if_neg (by decide)]
    rw [if_neg (by decide)]
    rw [if_neg (by decide)]
    rw [if_neg (by decide)]
    rw [if_neg (by decide)]
    rw [if_neg (by decide)]
    rw [if_neg (by decide)]
    rw [if_neg (by decide)]
    rw [if_pos rfl]
    refine ⟨161, 173, ?_, (JS.retL (pc1 := 172) (JX.ite (l := 171) (pc1 := 167) (pc2 := 168) (pc3 := 172) (lend := 172) (CJ.eqL_f (tgt := 171) (pc1 := 162) (pc2 := 163) (JX.ll (k := 1) rfl dX12_two_161) (JX.ll (k := 3) rfl dX12_two_162) dX12_two_163 dX12_two_164 rfl) (JX.lc (n := 1) (v := lI 1) rfl dX12_two_167) dX12_two_168 rfl (JX.lc (n := 0) (v := lI 0) rfl dX12_two_171) (Or.inl rfl)) dX12_two_172), dead_retL⟩
    exact TSw.tab_in (off := 160) dX12_two_1 (by decide) (by decide) rfl rfl
  by_cases h41 : x = iI 41
  · subst h41
    rw [if_neg (by decide)]
    rw [if_neg (by decide)]
    rw [if_neg (by decide)]
    rw [if_neg (by decide)]
    rw [if_neg (by decide)]
    rw [if_neg (by decide)]
    rw [if_neg (by decide)]
    rw [if_neg (by decide)]
    rw [if_neg (by decide)]
    rw [if_neg (by decide)]
    rw [if_pos rfl]
    refine ⟨173, 177, ?_, (JS.retL (pc1 := 176) (JX.land (pc1 := 174) (pc2 := 175) (JX.ll (k := 1) rfl dX12_two_173) (JX.ll (k := 3) rfl dX12_two_174) dX12_two_175) dX12_two_176), dead_retL⟩
    exact TSw.tab_in (off := 172) dX12_two_1 (by decide) (by decide) rfl rfl
  rw [if_neg h31]
  rw [if_neg h32]
  rw [if_neg h33]
  rw [if_neg h34]
  rw [if_neg h35]
  rw [if_neg h36]
  rw [if_neg h37]
  rw [if_neg h38]
  rw [if_neg h39]
  rw [if_neg h40]
  rw [if_neg h41]
  refine ⟨177, 181, ?_, (JS.retL (pc1 := 180) (JX.lor (pc1 := 178) (pc2 := 179) (JX.ll (k := 1) rfl dX12_two_177) (JX.ll (k := 3) rfl dX12_two_178) dX12_two_179) dX12_two_180), dead_retL⟩
  exact TSw.tab_out [31, 32, 33, 34, 35, 36, 37, 38, 39, 40, 41] dX12_two_1 (by decide) (by decide) (by simp [h31, h32, h33, h34, h35, h36, h37, h38, h39, h40, h41]) rfl
theorem jX12_two : JS MX12_two 0 0 0 181 [] bX12_two :=
  (JS.sw (lend := 181) (pc1 := 1) (pc2 := 181) (JX.il (k := 0) rfl dX12_two_0) swX12_two_1_ok (Or.inl rfl))
def mX12_two : MS := runM 5 (some (.long)) bX12_two
theorem aX12_two : MA yX12_two cX12_two 5 (some (.long)) 2 mX12_two := MA.of (plainFor_of_name (by decide)) jX12_two
theorem eX12_two (a0 : Int32) (a1 : Int64) (a2 : Int64) (h : AH) : mX12_two [.int a0, .long a1, .long a2] h = (bX12_two [.val (.int a0), .val (.long a1), .second, .val (.long a2), .second] h).bind (finM (some (.long))) := rfl
