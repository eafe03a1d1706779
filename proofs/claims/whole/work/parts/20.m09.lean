/-! ===== by program: mk20.py: methods ===== -/
/-! PieceStoreModel.isSign -/
theorem dX12_isSign_0 : decode cX12_isSign 0 = .ok (.aload_n 0, 1) := by decide +kernel
theorem dX12_isSign_1 : decode cX12_isSign 1 = .ok (.getfield 20, 3) := by decide +kernel
theorem dX12_isSign_4 : decode cX12_isSign 4 = .ok (.iconst 3, 1) := by decide +kernel
theorem dX12_isSign_5 : decode cX12_isSign 5 = .ok (.if_icmp .ne 15, 3) := by decide +kernel
theorem dX12_isSign_8 : decode cX12_isSign 8 = .ok (.aload_n 0, 1) := by decide +kernel
theorem dX12_isSign_9 : decode cX12_isSign 9 = .ok (.getfield 29, 3) := by decide +kernel
theorem dX12_isSign_12 : decode cX12_isSign 12 = .ok (.iload_n 1, 1) := by decide +kernel
theorem dX12_isSign_13 : decode cX12_isSign 13 = .ok (.if_icmp .ne 7, 3) := by decide +kernel
theorem dX12_isSign_16 : decode cX12_isSign 16 = .ok (.iconst 1, 1) := by decide +kernel
theorem dX12_isSign_17 : decode cX12_isSign 17 = .ok (.goto 4, 3) := by decide +kernel
theorem dX12_isSign_20 : decode cX12_isSign 20 = .ok (.iconst 0, 1) := by decide +kernel
theorem dX12_isSign_21 : decode cX12_isSign 21 = .ok (.ireturn, 1) := by decide +kernel
abbrev MX12_isSign : MI := (RX12, cX12_isSign, 2, 1, false)
def bX12_isSign : St := (retI (iteX (andX (eqI (getI 12 3 (lvR 0)) (ciI (iI 3))) (eqI (getI 12 6 (lvR 0)) (lvI 1))) (ciI (iI 1)) (ciI (iI 0))))
theorem jX12_isSign : JS MX12_isSign 0 0 0 22 [] bX12_isSign :=
  (JS.retI (pc1 := 21) (JX.ite (l := 20) (pc1 := 16) (pc2 := 17) (pc3 := 21) (lend := 21) (CJ.and_f (pc1 := 8) (CJ.eq_f (tgt := 20) (pc1 := 4) (pc2 := 5) (JX.getI (pc1 := 1) (c := 12) (k := 3) (i := 20) (JX.al (k := 0) rfl dX12_isSign_0) cl12 (by decide) rfl fk12_20 dX12_isSign_1) (JX.ic (n := 3) rfl dX12_isSign_4) dX12_isSign_5 rfl) (CJ.eq_f (tgt := 20) (pc1 := 12) (pc2 := 13) (JX.getI (pc1 := 9) (c := 12) (k := 6) (i := 29) (JX.al (k := 0) rfl dX12_isSign_8) cl12 (by decide) rfl fk12_29 dX12_isSign_9) (JX.il (k := 1) rfl dX12_isSign_12) dX12_isSign_13 rfl)) (JX.ic (n := 1) rfl dX12_isSign_16) dX12_isSign_17 rfl (JX.ic (n := 0) rfl dX12_isSign_20) (Or.inl rfl)) dX12_isSign_21)
def mX12_isSign : MS := runM 2 (some (.boolean)) bX12_isSign
theorem aX12_isSign : MA yX12_isSign cX12_isSign 2 (some (.boolean)) 1 mX12_isSign := MA.of (plainFor_of_name (by decide)) jX12_isSign
theorem eX12_isSign (a0 : Nat) (a1 : Int32) (h : AH) : mX12_isSign [.ref a0, .int a1] h = (bX12_isSign [.val (.ref a0), .val (.int a1)] h).bind (finM (some (.boolean))) := rfl
/-! PieceStoreModel.isWord -/
theorem dX12_isWord_0 : decode cX12_isWord 0 = .ok (.aload_n 0, 1) := by decide +kernel
theorem dX12_isWord_1 : decode cX12_isWord 1 = .ok (.getfield 20, 3) := by decide +kernel
theorem dX12_isWord_4 : decode cX12_isWord 4 = .ok (.iconst 1, 1) := by decide +kernel
theorem dX12_isWord_5 : decode cX12_isWord 5 = .ok (.if_icmp .ne 16, 3) := by decide +kernel
theorem dX12_isWord_8 : decode cX12_isWord 8 = .ok (.aload_n 0, 1) := by decide +kernel
theorem dX12_isWord_9 : decode cX12_isWord 9 = .ok (.getfield 32, 3) := by decide +kernel
theorem dX12_isWord_12 : decode cX12_isWord 12 = .ok (.lload_n 1, 1) := by decide +kernel
theorem dX12_isWord_13 : decode cX12_isWord 13 = .ok (.lcmp, 1) := by decide +kernel
theorem dX12_isWord_14 : decode cX12_isWord 14 = .ok (.ifCond .ne 7, 3) := by decide +kernel
theorem dX12_isWord_17 : decode cX12_isWord 17 = .ok (.iconst 1, 1) := by decide +kernel
theorem dX12_isWord_18 : decode cX12_isWord 18 = .ok (.goto 4, 3) := by decide +kernel
theorem dX12_isWord_21 : decode cX12_isWord 21 = .ok (.iconst 0, 1) := by decide +kernel
theorem dX12_isWord_22 : decode cX12_isWord 22 = .ok (.ireturn, 1) := by decide +kernel
abbrev MX12_isWord : MI := (RX12, cX12_isWord, 3, 1, false)
def bX12_isWord : St := (retI (iteX (andX (eqI (getI 12 3 (lvR 0)) (ciI (iI 1))) (eqL (getL 12 7 (lvR 0)) (lvL 1))) (ciI (iI 1)) (ciI (iI 0))))
theorem jX12_isWord : JS MX12_isWord 0 0 0 23 [] bX12_isWord :=
  (JS.retI (pc1 := 22) (JX.ite (l := 21) (pc1 := 17) (pc2 := 18) (pc3 := 22) (lend := 22) (CJ.and_f (pc1 := 8) (CJ.eq_f (tgt := 21) (pc1 := 4) (pc2 := 5) (JX.getI (pc1 := 1) (c := 12) (k := 3) (i := 20) (JX.al (k := 0) rfl dX12_isWord_0) cl12 (by decide) rfl fk12_20 dX12_isWord_1) (JX.ic (n := 1) rfl dX12_isWord_4) dX12_isWord_5 rfl) (CJ.eqL_f (tgt := 21) (pc1 := 12) (pc2 := 13) (JX.getL (pc1 := 9) (c := 12) (k := 7) (i := 32) (JX.al (k := 0) rfl dX12_isWord_8) cl12 (by decide) rfl fk12_32 dX12_isWord_9) (JX.ll (k := 1) rfl dX12_isWord_12) dX12_isWord_13 dX12_isWord_14 rfl)) (JX.ic (n := 1) rfl dX12_isWord_17) dX12_isWord_18 rfl (JX.ic (n := 0) rfl dX12_isWord_21) (Or.inl rfl)) dX12_isWord_22)
def mX12_isWord : MS := runM 3 (some (.boolean)) bX12_isWord
theorem aX12_isWord : MA yX12_isWord cX12_isWord 3 (some (.boolean)) 1 mX12_isWord := MA.of (plainFor_of_name (by decide)) jX12_isWord
theorem eX12_isWord (a0 : Nat) (a1 : Int64) (h : AH) : mX12_isWord [.ref a0, .long a1] h = (bX12_isWord [.val (.ref a0), .val (.long a1), .second] h).bind (finM (some (.boolean))) := rfl
/-! PieceStoreModel.must -/
theorem dX12_must_0 : decode cX12_must 0 = .ok (.aload_n 0, 1) := by decide +kernel
theorem dX12_must_1 : decode cX12_must 1 = .ok (.invokevirtual 246, 3) := by decide +kernel
theorem dX12_must_4 : decode cX12_must 4 = .ok (.aload_n 0, 1) := by decide +kernel
theorem dX12_must_5 : decode cX12_must 5 = .ok (.iload_n 1, 1) := by decide +kernel
theorem dX12_must_6 : decode cX12_must 6 = .ok (.invokevirtual 249, 3) := by decide +kernel
theorem dX12_must_9 : decode cX12_must 9 = .ok (.ifCond .ne 12, 3) := by decide +kernel
theorem dX12_must_12 : decode cX12_must 12 = .ok (.aload_n 0, 1) := by decide +kernel
theorem dX12_must_13 : decode cX12_must 13 = .ok (.iconst 1, 1) := by decide +kernel
theorem dX12_must_14 : decode cX12_must 14 = .ok (.aload_n 0, 1) := by decide +kernel
theorem dX12_must_15 : decode cX12_must 15 = .ok (.getfield 23, 3) := by decide +kernel
theorem dX12_must_18 : decode cX12_must 18 = .ok (.invokevirtual 235, 3) := by decide +kernel
theorem dX12_must_21 : decode cX12_must 21 = .ok (.aload_n 0, 1) := by decide +kernel
theorem dX12_must_22 : decode cX12_must 22 = .ok (.getfield 36, 3) := by decide +kernel
theorem dX12_must_25 : decode cX12_must 25 = .ok (.ifCond .ne 7, 3) := by decide +kernel
theorem dX12_must_28 : decode cX12_must 28 = .ok (.aload_n 0, 1) := by decide +kernel
theorem dX12_must_29 : decode cX12_must 29 = .ok (.invokevirtual 252, 3) := by decide +kernel
theorem dX12_must_32 : decode cX12_must 32 = .ok (.return_, 1) := by decide +kernel
abbrev MX12_must : MI := (RX12, cX12_must, 2, 3, false)
def bX12_must : St := (seqS (calS (ckV 12 0) mX12_lex (agC va_rf (lvR 0) agN)) (seqS (ifS (notX (ne0 (calX decI (ckV 12 1) mX12_isSign (agC va_rf (lvR 0) (agC Value.int (lvI 1) agN))))) (calS (ckV 12 2) mX12_blame (agC va_rf (lvR 0) (agC Value.int (ciI (iI 1)) (agC Value.int (getI 12 4 (lvR 0)) agN))))) (seqS (ifS (eq0 (getI 12 8 (lvR 0))) (calS (ckV 12 0) mX12_ahead (agC va_rf (lvR 0) agN))) retV)))
theorem jX12_must : JS MX12_must 0 0 0 33 [] bX12_must :=
  (JS.seq (pc1 := 4) (JS.call (pc1 := 1) (JA.r (JX.al (k := 0) rfl dX12_must_0) JA.nil) aX12_lex (RunK.V (i := 246) (c := 12) (n := 0) cl12 rfl (CN nX12_lex (by decide) (by decide)) gw1573 gw1575 gs61 dX12_must_1)) (JS.seq (pc1 := 21) (JS.iff (l := 21) (pc1 := 12) (CJ.not_f (CJ.ne0_t (tgt := 21) (pc1 := 9) (JX.call (pc1 := 6) decI_ok (JA.r (JX.al (k := 0) rfl dX12_must_4) (JA.i (JX.il (k := 1) rfl dX12_must_5) JA.nil)) aX12_isSign (RunK.V (i := 249) (c := 12) (n := 1) cl12 rfl (CN nX12_isSign (by decide) (by decide)) gw1596 gw1598 gs66 dX12_must_6) (by decide)) dX12_must_9 rfl)) (JS.call (pc1 := 18) (JA.r (JX.al (k := 0) rfl dX12_must_12) (JA.i (JX.ic (n := 1) rfl dX12_must_13) (JA.i (JX.getI (pc1 := 15) (c := 12) (k := 4) (i := 23) (JX.al (k := 0) rfl dX12_must_14) cl12 (by decide) rfl fk12_23 dX12_must_15) JA.nil))) aX12_blame (RunK.V (i := 235) (c := 12) (n := 2) cl12 rfl (CN nX12_blame (by decide) (by decide)) gw1577 gw1579 gs62 dX12_must_18)) (Or.inl rfl)) (JS.seq (pc1 := 32) (JS.iff (l := 32) (pc1 := 28) (CJ.eq0_f (tgt := 32) (pc1 := 25) (JX.getI (pc1 := 22) (c := 12) (k := 8) (i := 36) (JX.al (k := 0) rfl dX12_must_21) cl12 (by decide) rfl fk12_36 dX12_must_22) dX12_must_25 rfl) (JS.call (pc1 := 29) (JA.r (JX.al (k := 0) rfl dX12_must_28) JA.nil) aX12_ahead (RunK.V (i := 252) (c := 12) (n := 0) cl12 rfl (CN nX12_ahead (by decide) (by decide)) gw1554 gw1556 gs58 dX12_must_29)) (Or.inl rfl)) (JS.retV dX12_must_32))))
def mX12_must : MS := runM 2 none bX12_must
theorem aX12_must : MA yX12_must cX12_must 2 none 3 mX12_must := MA.of (plainFor_of_name (by decide)) jX12_must
theorem eX12_must (a0 : Nat) (a1 : Int32) (h : AH) : mX12_must [.ref a0, .int a1] h = (bX12_must [.val (.ref a0), .val (.int a1)] h).bind (finM none) := rfl
/-! PieceStoreModel.number -/
theorem dX12_number_0 : decode cX12_number 0 = .ok (.aload_n 0, 1) := by decide +kernel
theorem dX12_number_1 : decode cX12_number 1 = .ok (.invokevirtual 246, 3) := by decide +kernel
theorem dX12_number_4 : decode cX12_number 4 = .ok (.aload_n 0, 1) := by decide +kernel
theorem dX12_number_5 : decode cX12_number 5 = .ok (.getfield 36, 3) := by decide +kernel
theorem dX12_number_8 : decode cX12_number 8 = .ok (.ifCond .le 5, 3) := by decide +kernel
theorem dX12_number_11 : decode cX12_number 11 = .ok (.iconst 0, 1) := by decide +kernel
theorem dX12_number_12 : decode cX12_number 12 = .ok (.ireturn, 1) := by decide +kernel
theorem dX12_number_13 : decode cX12_number 13 = .ok (.aload_n 0, 1) := by decide +kernel
theorem dX12_number_14 : decode cX12_number 14 = .ok (.getfield 20, 3) := by decide +kernel
theorem dX12_number_17 : decode cX12_number 17 = .ok (.iconst 2, 1) := by decide +kernel
theorem dX12_number_18 : decode cX12_number 18 = .ok (.if_icmp .eq 12, 3) := by decide +kernel
theorem dX12_number_21 : decode cX12_number 21 = .ok (.aload_n 0, 1) := by decide +kernel
theorem dX12_number_22 : decode cX12_number 22 = .ok (.iconst 1, 1) := by decide +kernel
theorem dX12_number_23 : decode cX12_number 23 = .ok (.aload_n 0, 1) := by decide +kernel
theorem dX12_number_24 : decode cX12_number 24 = .ok (.getfield 23, 3) := by decide +kernel
theorem dX12_number_27 : decode cX12_number 27 = .ok (.invokevirtual 235, 3) := by decide +kernel
theorem dX12_number_30 : decode cX12_number 30 = .ok (.aload_n 0, 1) := by decide +kernel
theorem dX12_number_31 : decode cX12_number 31 = .ok (.getfield 36, 3) := by decide +kernel
theorem dX12_number_34 : decode cX12_number 34 = .ok (.ifCond .ne 24, 3) := by decide +kernel
theorem dX12_number_37 : decode cX12_number 37 = .ok (.aload_n 0, 1) := by decide +kernel
theorem dX12_number_38 : decode cX12_number 38 = .ok (.getfield 29, 3) := by decide +kernel
theorem dX12_number_41 : decode cX12_number 41 = .ok (.iload_n 1, 1) := by decide +kernel
theorem dX12_number_42 : decode cX12_number 42 = .ok (.iload_n 2, 1) := by decide +kernel
theorem dX12_number_43 : decode cX12_number 43 = .ok (.invokestatic 313, 3) := by decide +kernel
theorem dX12_number_46 : decode cX12_number 46 = .ok (.ifCond .ne 12, 3) := by decide +kernel
theorem dX12_number_49 : decode cX12_number 49 = .ok (.aload_n 0, 1) := by decide +kernel
theorem dX12_number_50 : decode cX12_number 50 = .ok (.iconst 4, 1) := by decide +kernel
theorem dX12_number_51 : decode cX12_number 51 = .ok (.aload_n 0, 1) := by decide +kernel
theorem dX12_number_52 : decode cX12_number 52 = .ok (.getfield 23, 3) := by decide +kernel
theorem dX12_number_55 : decode cX12_number 55 = .ok (.invokevirtual 235, 3) := by decide +kernel
theorem dX12_number_58 : decode cX12_number 58 = .ok (.aload_n 0, 1) := by decide +kernel
theorem dX12_number_59 : decode cX12_number 59 = .ok (.getfield 29, 3) := by decide +kernel
theorem dX12_number_62 : decode cX12_number 62 = .ok (.istore_n 3, 1) := by decide +kernel
theorem dX12_number_63 : decode cX12_number 63 = .ok (.aload_n 0, 1) := by decide +kernel
theorem dX12_number_64 : decode cX12_number 64 = .ok (.getfield 36, 3) := by decide +kernel
theorem dX12_number_67 : decode cX12_number 67 = .ok (.ifCond .ne 7, 3) := by decide +kernel
theorem dX12_number_70 : decode cX12_number 70 = .ok (.aload_n 0, 1) := by decide +kernel
theorem dX12_number_71 : decode cX12_number 71 = .ok (.invokevirtual 252, 3) := by decide +kernel
theorem dX12_number_74 : decode cX12_number 74 = .ok (.iload_n 3, 1) := by decide +kernel
theorem dX12_number_75 : decode cX12_number 75 = .ok (.ireturn, 1) := by decide +kernel
abbrev MX12_number : MI := (RX12, cX12_number, 4, 3, false)
def bX12_number : St := (seqS (calS (ckV 12 0) mX12_lex (agC va_rf (lvR 0) agN)) (seqS (ifS (gt0 (getI 12 8 (lvR 0))) (retI (ciI (iI 0)))) (seqS (ifS (neI (getI 12 3 (lvR 0)) (ciI (iI 2))) (calS (ckV 12 2) mX12_blame (agC va_rf (lvR 0) (agC Value.int (ciI (iI 1)) (agC Value.int (getI 12 4 (lvR 0)) agN))))) (seqS (ifS (andX (eq0 (getI 12 8 (lvR 0))) (notX (ne0 (calX decI (ckS 3) mX12_is (agC Value.int (getI 12 6 (lvR 0)) (agC Value.int (lvI 1) (agC Value.int (lvI 2) agN))))))) (calS (ckV 12 2) mX12_blame (agC va_rf (lvR 0) (agC Value.int (ciI (iI 4)) (agC Value.int (getI 12 4 (lvR 0)) agN))))) (seqS (lsI 3 (getI 12 6 (lvR 0))) (seqS (ifS (eq0 (getI 12 8 (lvR 0))) (calS (ckV 12 0) mX12_ahead (agC va_rf (lvR 0) agN))) (retI (lvI 3))))))))
theorem jX12_number : JS MX12_number 0 0 0 76 [] bX12_number :=
  (JS.seq (pc1 := 4) (JS.call (pc1 := 1) (JA.r (JX.al (k := 0) rfl dX12_number_0) JA.nil) aX12_lex (RunK.V (i := 246) (c := 12) (n := 0) cl12 rfl (CN nX12_lex (by decide) (by decide)) gw1573 gw1575 gs61 dX12_number_1)) (JS.seq (pc1 := 13) (JS.iff (l := 13) (pc1 := 11) (CJ.gt0_f (tgt := 13) (pc1 := 8) (JX.getI (pc1 := 5) (c := 12) (k := 8) (i := 36) (JX.al (k := 0) rfl dX12_number_4) cl12 (by decide) rfl fk12_36 dX12_number_5) dX12_number_8 rfl) (JS.retI (pc1 := 12) (JX.ic (n := 0) rfl dX12_number_11) dX12_number_12) (Or.inl rfl)) (JS.seq (pc1 := 30) (JS.iff (l := 30) (pc1 := 21) (CJ.ne_f (tgt := 30) (pc1 := 17) (pc2 := 18) (JX.getI (pc1 := 14) (c := 12) (k := 3) (i := 20) (JX.al (k := 0) rfl dX12_number_13) cl12 (by decide) rfl fk12_20 dX12_number_14) (JX.ic (n := 2) rfl dX12_number_17) dX12_number_18 rfl) (JS.call (pc1 := 27) (JA.r (JX.al (k := 0) rfl dX12_number_21) (JA.i (JX.ic (n := 1) rfl dX12_number_22) (JA.i (JX.getI (pc1 := 24) (c := 12) (k := 4) (i := 23) (JX.al (k := 0) rfl dX12_number_23) cl12 (by decide) rfl fk12_23 dX12_number_24) JA.nil))) aX12_blame (RunK.V (i := 235) (c := 12) (n := 2) cl12 rfl (CN nX12_blame (by decide) (by decide)) gw1577 gw1579 gs62 dX12_number_27)) (Or.inl rfl)) (JS.seq (pc1 := 58) (JS.iff (l := 58) (pc1 := 49) (CJ.and_f (pc1 := 37) (CJ.eq0_f (tgt := 58) (pc1 := 34) (JX.getI (pc1 := 31) (c := 12) (k := 8) (i := 36) (JX.al (k := 0) rfl dX12_number_30) cl12 (by decide) rfl fk12_36 dX12_number_31) dX12_number_34 rfl) (CJ.not_f (CJ.ne0_t (tgt := 58) (pc1 := 46) (JX.call (pc1 := 43) decI_ok (JA.i (JX.getI (pc1 := 38) (c := 12) (k := 6) (i := 29) (JX.al (k := 0) rfl dX12_number_37) cl12 (by decide) rfl fk12_29 dX12_number_38) (JA.i (JX.il (k := 1) rfl dX12_number_41) (JA.i (JX.il (k := 2) rfl dX12_number_42) JA.nil))) aX12_is (RunK.S (i := 313) (n := 3) (CN nX12_is (by decide) (by decide)) gw1589 gw1590 dX12_number_43) (by decide)) dX12_number_46 rfl))) (JS.call (pc1 := 55) (JA.r (JX.al (k := 0) rfl dX12_number_49) (JA.i (JX.ic (n := 4) rfl dX12_number_50) (JA.i (JX.getI (pc1 := 52) (c := 12) (k := 4) (i := 23) (JX.al (k := 0) rfl dX12_number_51) cl12 (by decide) rfl fk12_23 dX12_number_52) JA.nil))) aX12_blame (RunK.V (i := 235) (c := 12) (n := 2) cl12 rfl (CN nX12_blame (by decide) (by decide)) gw1577 gw1579 gs62 dX12_number_55)) (Or.inl rfl)) (JS.seq (pc1 := 63) (JS.is (pc1 := 62) (k := 3) (JX.getI (pc1 := 59) (c := 12) (k := 6) (i := 29) (JX.al (k := 0) rfl dX12_number_58) cl12 (by decide) rfl fk12_29 dX12_number_59) rfl (show 3 < 4 by decide) dX12_number_62) (JS.seq (pc1 := 74) (JS.iff (l := 74) (pc1 := 70) (CJ.eq0_f (tgt := 74) (pc1 := 67) (JX.getI (pc1 := 64) (c := 12) (k := 8) (i := 36) (JX.al (k := 0) rfl dX12_number_63) cl12 (by decide) rfl fk12_36 dX12_number_64) dX12_number_67 rfl) (JS.call (pc1 := 71) (JA.r (JX.al (k := 0) rfl dX12_number_70) JA.nil) aX12_ahead (RunK.V (i := 252) (c := 12) (n := 0) cl12 rfl (CN nX12_ahead (by decide) (by decide)) gw1554 gw1556 gs58 dX12_number_71)) (Or.inl rfl)) (JS.retI (pc1 := 75) (JX.il (k := 3) rfl dX12_number_74) dX12_number_75)))))))
def mX12_number : MS := runM 4 (some (.int)) bX12_number
theorem aX12_number : MA yX12_number cX12_number 4 (some (.int)) 3 mX12_number := MA.of (plainFor_of_name (by decide)) jX12_number
theorem eX12_number (a0 : Nat) (a1 : Int32) (a2 : Int32) (h : AH) : mX12_number [.ref a0, .int a1, .int a2] h = (bX12_number [.val (.ref a0), .val (.int a1), .val (.int a2), .unset] h).bind (finM (some (.int))) := rfl
/-! PieceStoreModel.add -/
theorem dX12_add_0 : decode cX12_add 0 = .ok (.aload_n 0, 1) := by decide +kernel
theorem dX12_add_1 : decode cX12_add 1 = .ok (.getfield 63, 3) := by decide +kernel
theorem dX12_add_4 : decode cX12_add 4 = .ok (.sipush 1600, 3) := by decide +kernel
theorem dX12_add_7 : decode cX12_add 7 = .ok (.aload_n 0, 1) := by decide +kernel
theorem dX12_add_8 : decode cX12_add 8 = .ok (.getfield 72, 3) := by decide +kernel
theorem dX12_add_11 : decode cX12_add 11 = .ok (.imul, 1) := by decide +kernel
theorem dX12_add_12 : decode cX12_add 12 = .ok (.aload_n 0, 1) := by decide +kernel
theorem dX12_add_13 : decode cX12_add 13 = .ok (.getfield 69, 3) := by decide +kernel
theorem dX12_add_16 : decode cX12_add 16 = .ok (.iadd, 1) := by decide +kernel
theorem dX12_add_17 : decode cX12_add 17 = .ok (.iload_n 1, 1) := by decide +kernel
theorem dX12_add_18 : decode cX12_add 18 = .ok (.iastore, 1) := by decide +kernel
theorem dX12_add_19 : decode cX12_add 19 = .ok (.aload_n 0, 1) := by decide +kernel
theorem dX12_add_20 : decode cX12_add 20 = .ok (.getfield 66, 3) := by decide +kernel
theorem dX12_add_23 : decode cX12_add 23 = .ok (.sipush 1600, 3) := by decide +kernel
theorem dX12_add_26 : decode cX12_add 26 = .ok (.aload_n 0, 1) := by decide +kernel
theorem dX12_add_27 : decode cX12_add 27 = .ok (.getfield 72, 3) := by decide +kernel
theorem dX12_add_30 : decode cX12_add 30 = .ok (.imul, 1) := by decide +kernel
theorem dX12_add_31 : decode cX12_add 31 = .ok (.aload_n 0, 1) := by decide +kernel
theorem dX12_add_32 : decode cX12_add 32 = .ok (.getfield 69, 3) := by decide +kernel
theorem dX12_add_35 : decode cX12_add 35 = .ok (.iadd, 1) := by decide +kernel
theorem dX12_add_36 : decode cX12_add 36 = .ok (.iload_n 2, 1) := by decide +kernel
theorem dX12_add_37 : decode cX12_add 37 = .ok (.iastore, 1) := by decide +kernel
theorem dX12_add_38 : decode cX12_add 38 = .ok (.aload_n 0, 1) := by decide +kernel
theorem dX12_add_39 : decode cX12_add 39 = .ok (.dup, 1) := by decide +kernel
theorem dX12_add_40 : decode cX12_add 40 = .ok (.getfield 69, 3) := by decide +kernel
theorem dX12_add_43 : decode cX12_add 43 = .ok (.iconst 1, 1) := by decide +kernel
theorem dX12_add_44 : decode cX12_add 44 = .ok (.iadd, 1) := by decide +kernel
theorem dX12_add_45 : decode cX12_add 45 = .ok (.putfield 69, 3) := by decide +kernel
theorem dX12_add_48 : decode cX12_add 48 = .ok (.return_, 1) := by decide +kernel
abbrev MX12_add : MI := (RX12, cX12_add, 3, 1, false)
def bX12_add : St := (seqS (astI (getR 12 17 (lvR 0)) (addI (mulI (ciI (iI 1600)) (getI 12 20 (lvR 0))) (getI 12 19 (lvR 0))) (lvI 1)) (seqS (astI (getR 12 18 (lvR 0)) (addI (mulI (ciI (iI 1600)) (getI 12 20 (lvR 0))) (getI 12 19 (lvR 0))) (lvI 2)) (seqS (updI 12 19 (fun x y => x + y) (lvR 0) (ciI (iI 1))) retV)))
theorem jX12_add : JS MX12_add 0 0 0 49 [] bX12_add :=
  (JS.seq (pc1 := 19) (JS.ia (pc1 := 4) (pc2 := 17) (pc3 := 18) (JX.getR (pc1 := 1) (c := 12) (k := 17) (i := 63) (JX.al (k := 0) rfl dX12_add_0) cl12 (by decide) rfl fk12_63 dX12_add_1) (JX.iadd (pc1 := 12) (pc2 := 16) (JX.imul (pc1 := 7) (pc2 := 11) (JX.sp (n := 1600) ks1600 dX12_add_4) (JX.getI (pc1 := 8) (c := 12) (k := 20) (i := 72) (JX.al (k := 0) rfl dX12_add_7) cl12 (by decide) rfl fk12_72 dX12_add_8) dX12_add_11) (JX.getI (pc1 := 13) (c := 12) (k := 19) (i := 69) (JX.al (k := 0) rfl dX12_add_12) cl12 (by decide) rfl fk12_69 dX12_add_13) dX12_add_16) (JX.il (k := 1) rfl dX12_add_17) dX12_add_18) (JS.seq (pc1 := 38) (JS.ia (pc1 := 23) (pc2 := 36) (pc3 := 37) (JX.getR (pc1 := 20) (c := 12) (k := 18) (i := 66) (JX.al (k := 0) rfl dX12_add_19) cl12 (by decide) rfl fk12_66 dX12_add_20) (JX.iadd (pc1 := 31) (pc2 := 35) (JX.imul (pc1 := 26) (pc2 := 30) (JX.sp (n := 1600) ks1600 dX12_add_23) (JX.getI (pc1 := 27) (c := 12) (k := 20) (i := 72) (JX.al (k := 0) rfl dX12_add_26) cl12 (by decide) rfl fk12_72 dX12_add_27) dX12_add_30) (JX.getI (pc1 := 32) (c := 12) (k := 19) (i := 69) (JX.al (k := 0) rfl dX12_add_31) cl12 (by decide) rfl fk12_69 dX12_add_32) dX12_add_35) (JX.il (k := 2) rfl dX12_add_36) dX12_add_37) (JS.seq (pc1 := 48) (JS.upA (pc1 := 39) (pc2 := 44) (c := 12) (k := 19) (i := 69) (JX.al (k := 0) rfl dX12_add_38) dX12_add_39 cl12 (by decide) rfl fk12_69 (Or.inl rfl) dX12_add_40 (JX.ic (n := 1) rfl dX12_add_43) dX12_add_44 dX12_add_45) (JS.retV dX12_add_48))))
def mX12_add : MS := runM 3 none bX12_add
theorem aX12_add : MA yX12_add cX12_add 3 none 1 mX12_add := MA.of (plainFor_of_name (by decide)) jX12_add
theorem eX12_add (a0 : Nat) (a1 : Int32) (a2 : Int32) (h : AH) : mX12_add [.ref a0, .int a1, .int a2] h = (bX12_add [.val (.ref a0), .val (.int a1), .val (.int a2)] h).bind (finM none) := rfl
/-! PieceStoreModel.rank -/
theorem dX12_rank_0 : decode cX12_rank 0 = .ok (.iload_n 0, 1) := by decide +kernel
theorem dX12_rank_1 : decode cX12_rank 1 = .ok (.bipush 42, 2) := by decide +kernel
theorem dX12_rank_3 : decode cX12_rank 3 = .ok (.if_icmp .ne 7, 3) := by decide +kernel
theorem dX12_rank_6 : decode cX12_rank 6 = .ok (.iconst 1, 1) := by decide +kernel
theorem dX12_rank_7 : decode cX12_rank 7 = .ok (.goto 63, 3) := by decide +kernel
theorem dX12_rank_10 : decode cX12_rank 10 = .ok (.iload_n 0, 1) := by decide +kernel
theorem dX12_rank_11 : decode cX12_rank 11 = .ok (.bipush 41, 2) := by decide +kernel
theorem dX12_rank_13 : decode cX12_rank 13 = .ok (.if_icmp .ne 7, 3) := by decide +kernel
theorem dX12_rank_16 : decode cX12_rank 16 = .ok (.iconst 2, 1) := by decide +kernel
theorem dX12_rank_17 : decode cX12_rank 17 = .ok (.goto 53, 3) := by decide +kernel
theorem dX12_rank_20 : decode cX12_rank 20 = .ok (.iload_n 0, 1) := by decide +kernel
theorem dX12_rank_21 : decode cX12_rank 21 = .ok (.bipush 43, 2) := by decide +kernel
theorem dX12_rank_23 : decode cX12_rank 23 = .ok (.if_icmp .ne 7, 3) := by decide +kernel
theorem dX12_rank_26 : decode cX12_rank 26 = .ok (.iconst 3, 1) := by decide +kernel
theorem dX12_rank_27 : decode cX12_rank 27 = .ok (.goto 43, 3) := by decide +kernel
theorem dX12_rank_30 : decode cX12_rank 30 = .ok (.iload_n 0, 1) := by decide +kernel
theorem dX12_rank_31 : decode cX12_rank 31 = .ok (.bipush 38, 2) := by decide +kernel
theorem dX12_rank_33 : decode cX12_rank 33 = .ok (.if_icmp .eq 15, 3) := by decide +kernel
theorem dX12_rank_36 : decode cX12_rank 36 = .ok (.iload_n 0, 1) := by decide +kernel
theorem dX12_rank_37 : decode cX12_rank 37 = .ok (.bipush 39, 2) := by decide +kernel
theorem dX12_rank_39 : decode cX12_rank 39 = .ok (.if_icmp .eq 9, 3) := by decide +kernel
theorem dX12_rank_42 : decode cX12_rank 42 = .ok (.iload_n 0, 1) := by decide +kernel
theorem dX12_rank_43 : decode cX12_rank 43 = .ok (.bipush 40, 2) := by decide +kernel
theorem dX12_rank_45 : decode cX12_rank 45 = .ok (.if_icmp .ne 7, 3) := by decide +kernel
theorem dX12_rank_48 : decode cX12_rank 48 = .ok (.iconst 4, 1) := by decide +kernel
theorem dX12_rank_49 : decode cX12_rank 49 = .ok (.goto 21, 3) := by decide +kernel
theorem dX12_rank_52 : decode cX12_rank 52 = .ok (.iload_n 0, 1) := by decide +kernel
theorem dX12_rank_53 : decode cX12_rank 53 = .ok (.bipush 31, 2) := by decide +kernel
theorem dX12_rank_55 : decode cX12_rank 55 = .ok (.if_icmp .eq 9, 3) := by decide +kernel
theorem dX12_rank_58 : decode cX12_rank 58 = .ok (.iload_n 0, 1) := by decide +kernel
theorem dX12_rank_59 : decode cX12_rank 59 = .ok (.bipush 32, 2) := by decide +kernel
theorem dX12_rank_61 : decode cX12_rank 61 = .ok (.if_icmp .ne 7, 3) := by decide +kernel
theorem dX12_rank_64 : decode cX12_rank 64 = .ok (.iconst 5, 1) := by decide +kernel
theorem dX12_rank_65 : decode cX12_rank 65 = .ok (.goto 5, 3) := by decide +kernel
theorem dX12_rank_68 : decode cX12_rank 68 = .ok (.bipush 6, 2) := by decide +kernel
theorem dX12_rank_70 : decode cX12_rank 70 = .ok (.ireturn, 1) := by decide +kernel
abbrev MX12_rank : MI := (RX12, cX12_rank, 1, 1, false)
def bX12_rank : St := (retI (iteX (eqI (lvI 0) (ciI (iI 42))) (ciI (iI 1)) (iteX (eqI (lvI 0) (ciI (iI 41))) (ciI (iI 2)) (iteX (eqI (lvI 0) (ciI (iI 43))) (ciI (iI 3)) (iteX (orX (orX (eqI (lvI 0) (ciI (iI 38))) (eqI (lvI 0) (ciI (iI 39)))) (eqI (lvI 0) (ciI (iI 40)))) (ciI (iI 4)) (iteX (orX (eqI (lvI 0) (ciI (iI 31))) (eqI (lvI 0) (ciI (iI 32)))) (ciI (iI 5)) (ciI (iI 6))))))))
theorem jX12_rank : JS MX12_rank 0 0 0 71 [] bX12_rank :=
  (JS.retI (pc1 := 70) (JX.ite (l := 10) (pc1 := 6) (pc2 := 7) (pc3 := 70) (lend := 70) (CJ.eq_f (tgt := 10) (pc1 := 1) (pc2 := 3) (JX.il (k := 0) rfl dX12_rank_0) (JX.bp (n := 42) kb42 dX12_rank_1) dX12_rank_3 rfl) (JX.ic (n := 1) rfl dX12_rank_6) dX12_rank_7 rfl (JX.ite (l := 20) (pc1 := 16) (pc2 := 17) (pc3 := 70) (lend := 70) (CJ.eq_f (tgt := 20) (pc1 := 11) (pc2 := 13) (JX.il (k := 0) rfl dX12_rank_10) (JX.bp (n := 41) kb41 dX12_rank_11) dX12_rank_13 rfl) (JX.ic (n := 2) rfl dX12_rank_16) dX12_rank_17 rfl (JX.ite (l := 30) (pc1 := 26) (pc2 := 27) (pc3 := 70) (lend := 70) (CJ.eq_f (tgt := 30) (pc1 := 21) (pc2 := 23) (JX.il (k := 0) rfl dX12_rank_20) (JX.bp (n := 43) kb43 dX12_rank_21) dX12_rank_23 rfl) (JX.ic (n := 3) rfl dX12_rank_26) dX12_rank_27 rfl (JX.ite (l := 52) (pc1 := 48) (pc2 := 49) (pc3 := 70) (lend := 70) (CJ.or_f (l := 48) (pc1 := 42) (CJ.or_t (pc1 := 36) (CJ.eq_t (tgt := 48) (pc1 := 31) (pc2 := 33) (JX.il (k := 0) rfl dX12_rank_30) (JX.bp (n := 38) kb38 dX12_rank_31) dX12_rank_33 rfl) (CJ.eq_t (tgt := 48) (pc1 := 37) (pc2 := 39) (JX.il (k := 0) rfl dX12_rank_36) (JX.bp (n := 39) kb39 dX12_rank_37) dX12_rank_39 rfl)) (CJ.eq_f (tgt := 52) (pc1 := 43) (pc2 := 45) (JX.il (k := 0) rfl dX12_rank_42) (JX.bp (n := 40) kb40 dX12_rank_43) dX12_rank_45 rfl) (Or.inl rfl)) (JX.ic (n := 4) rfl dX12_rank_48) dX12_rank_49 rfl (JX.ite (l := 68) (pc1 := 64) (pc2 := 65) (pc3 := 70) (lend := 70) (CJ.or_f (l := 64) (pc1 := 58) (CJ.eq_t (tgt := 64) (pc1 := 53) (pc2 := 55) (JX.il (k := 0) rfl dX12_rank_52) (JX.bp (n := 31) kb31 dX12_rank_53) dX12_rank_55 rfl) (CJ.eq_f (tgt := 68) (pc1 := 59) (pc2 := 61) (JX.il (k := 0) rfl dX12_rank_58) (JX.bp (n := 32) kb32 dX12_rank_59) dX12_rank_61 rfl) (Or.inl rfl)) (JX.ic (n := 5) rfl dX12_rank_64) dX12_rank_65 rfl (JX.bp (n := 6) kb6 dX12_rank_68) (Or.inl rfl)) (Or.inl rfl)) (Or.inl rfl)) (Or.inl rfl)) (Or.inl rfl)) dX12_rank_70)
def mX12_rank : MS := runM 1 (some (.int)) bX12_rank
theorem aX12_rank : MA yX12_rank cX12_rank 1 (some (.int)) 1 mX12_rank := MA.of (plainFor_of_name (by decide)) jX12_rank
theorem eX12_rank (a0 : Int32) (h : AH) : mX12_rank [.int a0] h = (bX12_rank [.val (.int a0)] h).bind (finM (some (.int))) := rfl
/-! PieceStoreModel.joins -/
theorem dX12_joins_0 : decode cX12_joins 0 = .ok (.aload_n 0, 1) := by decide +kernel
theorem dX12_joins_1 : decode cX12_joins 1 = .ok (.getfield 103, 3) := by decide +kernel
theorem dX12_joins_4 : decode cX12_joins 4 = .ok (.aload_n 0, 1) := by decide +kernel
theorem dX12_joins_5 : decode cX12_joins 5 = .ok (.getfield 91, 3) := by decide +kernel
theorem dX12_joins_8 : decode cX12_joins 8 = .ok (.aload_n 0, 1) := by decide +kernel
theorem dX12_joins_9 : decode cX12_joins 9 = .ok (.getfield 94, 3) := by decide +kernel
theorem dX12_joins_12 : decode cX12_joins 12 = .ok (.iconst 1, 1) := by decide +kernel
theorem dX12_joins_13 : decode cX12_joins 13 = .ok (.isub, 1) := by decide +kernel
theorem dX12_joins_14 : decode cX12_joins 14 = .ok (.iaload, 1) := by decide +kernel
theorem dX12_joins_15 : decode cX12_joins 15 = .ok (.if_icmp .le 72, 3) := by decide +kernel
theorem dX12_joins_18 : decode cX12_joins 18 = .ok (.aload_n 0, 1) := by decide +kernel
theorem dX12_joins_19 : decode cX12_joins 19 = .ok (.getfield 100, 3) := by decide +kernel
theorem dX12_joins_22 : decode cX12_joins 22 = .ok (.aload_n 0, 1) := by decide +kernel
theorem dX12_joins_23 : decode cX12_joins 23 = .ok (.getfield 103, 3) := by decide +kernel
theorem dX12_joins_26 : decode cX12_joins 26 = .ok (.iconst 1, 1) := by decide +kernel
theorem dX12_joins_27 : decode cX12_joins 27 = .ok (.isub, 1) := by decide +kernel
theorem dX12_joins_28 : decode cX12_joins 28 = .ok (.iaload, 1) := by decide +kernel
theorem dX12_joins_29 : decode cX12_joins 29 = .ok (.invokestatic 317, 3) := by decide +kernel
theorem dX12_joins_32 : decode cX12_joins 32 = .ok (.iload_n 1, 1) := by decide +kernel
theorem dX12_joins_33 : decode cX12_joins 33 = .ok (.if_icmp .lt 54, 3) := by decide +kernel
theorem dX12_joins_36 : decode cX12_joins 36 = .ok (.aload_n 0, 1) := by decide +kernel
theorem dX12_joins_37 : decode cX12_joins 37 = .ok (.dup, 1) := by decide +kernel
theorem dX12_joins_38 : decode cX12_joins 38 = .ok (.getfield 103, 3) := by decide +kernel
theorem dX12_joins_41 : decode cX12_joins 41 = .ok (.iconst 1, 1) := by decide +kernel
theorem dX12_joins_42 : decode cX12_joins 42 = .ok (.isub, 1) := by decide +kernel
theorem dX12_joins_43 : decode cX12_joins 43 = .ok (.putfield 103, 3) := by decide +kernel
theorem dX12_joins_46 : decode cX12_joins 46 = .ok (.aload_n 0, 1) := by decide +kernel
theorem dX12_joins_47 : decode cX12_joins 47 = .ok (.aload_n 0, 1) := by decide +kernel
theorem dX12_joins_48 : decode cX12_joins 48 = .ok (.getfield 100, 3) := by decide +kernel
theorem dX12_joins_51 : decode cX12_joins 51 = .ok (.aload_n 0, 1) := by decide +kernel
theorem dX12_joins_52 : decode cX12_joins 52 = .ok (.getfield 103, 3) := by decide +kernel
theorem dX12_joins_55 : decode cX12_joins 55 = .ok (.iaload, 1) := by decide +kernel
theorem dX12_joins_56 : decode cX12_joins 56 = .ok (.iconst 0, 1) := by decide +kernel
theorem dX12_joins_57 : decode cX12_joins 57 = .ok (.invokevirtual 320, 3) := by decide +kernel
theorem dX12_joins_60 : decode cX12_joins 60 = .ok (.aload_n 0, 1) := by decide +kernel
theorem dX12_joins_61 : decode cX12_joins 61 = .ok (.getfield 100, 3) := by decide +kernel
theorem dX12_joins_64 : decode cX12_joins 64 = .ok (.aload_n 0, 1) := by decide +kernel
theorem dX12_joins_65 : decode cX12_joins 65 = .ok (.getfield 103, 3) := by decide +kernel
theorem dX12_joins_68 : decode cX12_joins 68 = .ok (.iaload, 1) := by decide +kernel
theorem dX12_joins_69 : decode cX12_joins 69 = .ok (.bipush 43, 2) := by decide +kernel
theorem dX12_joins_71 : decode cX12_joins 71 = .ok (.if_icmp .ne (-71), 3) := by decide +kernel
theorem dX12_joins_74 : decode cX12_joins 74 = .ok (.aload_n 0, 1) := by decide +kernel
theorem dX12_joins_75 : decode cX12_joins 75 = .ok (.dup, 1) := by decide +kernel
theorem dX12_joins_76 : decode cX12_joins 76 = .ok (.getfield 97, 3) := by decide +kernel
theorem dX12_joins_79 : decode cX12_joins 79 = .ok (.iconst 1, 1) := by decide +kernel
theorem dX12_joins_80 : decode cX12_joins 80 = .ok (.isub, 1) := by decide +kernel
theorem dX12_joins_81 : decode cX12_joins 81 = .ok (.putfield 97, 3) := by decide +kernel
theorem dX12_joins_84 : decode cX12_joins 84 = .ok (.goto (-84), 3) := by decide +kernel
theorem dX12_joins_87 : decode cX12_joins 87 = .ok (.return_, 1) := by decide +kernel
abbrev MX12_joins : MI := (RX12, cX12_joins, 2, 2, false)
def lcX12_joins_1 : Ex Bool := (andX (gtI (getI 12 30 (lvR 0)) (aldI 2 (getR 12 26 (lvR 0)) (subI (getI 12 27 (lvR 0)) (ciI (iI 1))))) (geI (calX decI (ckS 1) mX12_rank (agC Value.int (aldI 2 (getR 12 29 (lvR 0)) (subI (getI 12 30 (lvR 0)) (ciI (iI 1)))) agN)) (lvI 1)))
def lbX12_joins_1 : St := (seqS (updI 12 30 (fun x y => x - y) (lvR 0) (ciI (iI 1))) (seqS (calS (ckV 12 2) mX12_add (agC va_rf (lvR 0) (agC Value.int (aldI 2 (getR 12 29 (lvR 0)) (getI 12 30 (lvR 0))) (agC Value.int (ciI (iI 0)) agN)))) (ifS (eqI (aldI 2 (getR 12 29 (lvR 0)) (getI 12 30 (lvR 0))) (ciI (iI 43))) (updI 12 28 (fun x y => x - y) (lvR 0) (ciI (iI 1))))))
def bX12_joins : St := (seqS (whileS lcX12_joins_1 lbX12_joins_1) retV)
theorem jX12_joins : JS MX12_joins 0 0 0 88 [] bX12_joins :=
  (JS.seq (pc1 := 87) (JS.while (l := 87) (lb := 87) (pc1 := 36) (pc2 := 84) (pc3 := 87) (CJ.and_f (pc1 := 18) (CJ.gt_f (tgt := 87) (pc1 := 4) (pc2 := 15) (JX.getI (pc1 := 1) (c := 12) (k := 30) (i := 103) (JX.al (k := 0) rfl dX12_joins_0) cl12 (by decide) rfl fk12_103 dX12_joins_1) (JX.iald (pc1 := 8) (pc2 := 14) (JX.getR (pc1 := 5) (c := 12) (k := 26) (i := 91) (JX.al (k := 0) rfl dX12_joins_4) cl12 (by decide) rfl fk12_91 dX12_joins_5) (JX.isub (pc1 := 12) (pc2 := 13) (JX.getI (pc1 := 9) (c := 12) (k := 27) (i := 94) (JX.al (k := 0) rfl dX12_joins_8) cl12 (by decide) rfl fk12_94 dX12_joins_9) (JX.ic (n := 1) rfl dX12_joins_12) dX12_joins_13) dX12_joins_14) dX12_joins_15 rfl) (CJ.ge_f (tgt := 87) (pc1 := 32) (pc2 := 33) (JX.call (pc1 := 29) decI_ok (JA.i (JX.iald (pc1 := 22) (pc2 := 28) (JX.getR (pc1 := 19) (c := 12) (k := 29) (i := 100) (JX.al (k := 0) rfl dX12_joins_18) cl12 (by decide) rfl fk12_100 dX12_joins_19) (JX.isub (pc1 := 26) (pc2 := 27) (JX.getI (pc1 := 23) (c := 12) (k := 30) (i := 103) (JX.al (k := 0) rfl dX12_joins_22) cl12 (by decide) rfl fk12_103 dX12_joins_23) (JX.ic (n := 1) rfl dX12_joins_26) dX12_joins_27) dX12_joins_28) JA.nil) aX12_rank (RunK.S (i := 317) (n := 1) (CN nX12_rank (by decide) (by decide)) gw1679 gw1680 dX12_joins_29) (by decide)) (JX.il (k := 1) rfl dX12_joins_32) dX12_joins_33 rfl)) (JS.seq (pc1 := 46) (JS.upS (pc1 := 37) (pc2 := 42) (c := 12) (k := 30) (i := 103) (JX.al (k := 0) rfl dX12_joins_36) dX12_joins_37 cl12 (by decide) rfl fk12_103 (Or.inl rfl) dX12_joins_38 (JX.ic (n := 1) rfl dX12_joins_41) dX12_joins_42 dX12_joins_43) (JS.seq (pc1 := 60) (JS.call (pc1 := 57) (JA.r (JX.al (k := 0) rfl dX12_joins_46) (JA.i (JX.iald (pc1 := 51) (pc2 := 55) (JX.getR (pc1 := 48) (c := 12) (k := 29) (i := 100) (JX.al (k := 0) rfl dX12_joins_47) cl12 (by decide) rfl fk12_100 dX12_joins_48) (JX.getI (pc1 := 52) (c := 12) (k := 30) (i := 103) (JX.al (k := 0) rfl dX12_joins_51) cl12 (by decide) rfl fk12_103 dX12_joins_52) dX12_joins_55) (JA.i (JX.ic (n := 0) rfl dX12_joins_56) JA.nil))) aX12_add (RunK.V (i := 320) (c := 12) (n := 2) cl12 rfl (CN nX12_add (by decide) (by decide)) gw1655 gw1657 gs77 dX12_joins_57)) (JS.iff (l := 0) (pc1 := 74) (CJ.eq_f (tgt := 0) (pc1 := 69) (pc2 := 71) (JX.iald (pc1 := 64) (pc2 := 68) (JX.getR (pc1 := 61) (c := 12) (k := 29) (i := 100) (JX.al (k := 0) rfl dX12_joins_60) cl12 (by decide) rfl fk12_100 dX12_joins_61) (JX.getI (pc1 := 65) (c := 12) (k := 30) (i := 103) (JX.al (k := 0) rfl dX12_joins_64) cl12 (by decide) rfl fk12_103 dX12_joins_65) dX12_joins_68) (JX.bp (n := 43) kb43 dX12_joins_69) dX12_joins_71 rfl) (JS.upS (pc1 := 75) (pc2 := 80) (c := 12) (k := 28) (i := 97) (JX.al (k := 0) rfl dX12_joins_74) dX12_joins_75 cl12 (by decide) rfl fk12_97 (Or.inl rfl) dX12_joins_76 (JX.ic (n := 1) rfl dX12_joins_79) dX12_joins_80 dX12_joins_81) (Or.inr (List.mem_singleton.mpr rfl))))) dX12_joins_84 rfl (Or.inl rfl) (Or.inl rfl)) (JS.retV dX12_joins_87))
def mX12_joins : MS := runM 2 none bX12_joins
theorem aX12_joins : MA yX12_joins cX12_joins 2 none 2 mX12_joins := MA.of (plainFor_of_name (by decide)) jX12_joins
theorem eX12_joins (a0 : Nat) (a1 : Int32) (h : AH) : mX12_joins [.ref a0, .int a1] h = (bX12_joins [.val (.ref a0), .val (.int a1)] h).bind (finM none) := rfl
/-! PieceStoreModel.holdsBack -/
theorem dX12_holdsBack_0 : decode cX12_holdsBack 0 = .ok (.aload_n 0, 1) := by decide +kernel
theorem dX12_holdsBack_1 : decode cX12_holdsBack 1 = .ok (.getfield 100, 3) := by decide +kernel
theorem dX12_holdsBack_4 : decode cX12_holdsBack 4 = .ok (.aload_n 0, 1) := by decide +kernel
theorem dX12_holdsBack_5 : decode cX12_holdsBack 5 = .ok (.getfield 103, 3) := by decide +kernel
theorem dX12_holdsBack_8 : decode cX12_holdsBack 8 = .ok (.iload_n 1, 1) := by decide +kernel
theorem dX12_holdsBack_9 : decode cX12_holdsBack 9 = .ok (.iastore, 1) := by decide +kernel
theorem dX12_holdsBack_10 : decode cX12_holdsBack 10 = .ok (.aload_n 0, 1) := by decide +kernel
theorem dX12_holdsBack_11 : decode cX12_holdsBack 11 = .ok (.dup, 1) := by decide +kernel
theorem dX12_holdsBack_12 : decode cX12_holdsBack 12 = .ok (.getfield 103, 3) := by decide +kernel
theorem dX12_holdsBack_15 : decode cX12_holdsBack 15 = .ok (.iconst 1, 1) := by decide +kernel
theorem dX12_holdsBack_16 : decode cX12_holdsBack 16 = .ok (.iadd, 1) := by decide +kernel
theorem dX12_holdsBack_17 : decode cX12_holdsBack 17 = .ok (.putfield 103, 3) := by decide +kernel
theorem dX12_holdsBack_20 : decode cX12_holdsBack 20 = .ok (.return_, 1) := by decide +kernel
abbrev MX12_holdsBack : MI := (RX12, cX12_holdsBack, 2, 1, false)
def bX12_holdsBack : St := (seqS (astI (getR 12 29 (lvR 0)) (getI 12 30 (lvR 0)) (lvI 1)) (seqS (updI 12 30 (fun x y => x + y) (lvR 0) (ciI (iI 1))) retV))
theorem jX12_holdsBack : JS MX12_holdsBack 0 0 0 21 [] bX12_holdsBack :=
  (JS.seq (pc1 := 10) (JS.ia (pc1 := 4) (pc2 := 8) (pc3 := 9) (JX.getR (pc1 := 1) (c := 12) (k := 29) (i := 100) (JX.al (k := 0) rfl dX12_holdsBack_0) cl12 (by decide) rfl fk12_100 dX12_holdsBack_1) (JX.getI (pc1 := 5) (c := 12) (k := 30) (i := 103) (JX.al (k := 0) rfl dX12_holdsBack_4) cl12 (by decide) rfl fk12_103 dX12_holdsBack_5) (JX.il (k := 1) rfl dX12_holdsBack_8) dX12_holdsBack_9) (JS.seq (pc1 := 20) (JS.upA (pc1 := 11) (pc2 := 16) (c := 12) (k := 30) (i := 103) (JX.al (k := 0) rfl dX12_holdsBack_10) dX12_holdsBack_11 cl12 (by decide) rfl fk12_103 (Or.inl rfl) dX12_holdsBack_12 (JX.ic (n := 1) rfl dX12_holdsBack_15) dX12_holdsBack_16 dX12_holdsBack_17) (JS.retV dX12_holdsBack_20)))
def mX12_holdsBack : MS := runM 2 none bX12_holdsBack
theorem aX12_holdsBack : MA yX12_holdsBack cX12_holdsBack 2 none 1 mX12_holdsBack := MA.of (plainFor_of_name (by decide)) jX12_holdsBack
theorem eX12_holdsBack (a0 : Nat) (a1 : Int32) (h : AH) : mX12_holdsBack [.ref a0, .int a1] h = (bX12_holdsBack [.val (.ref a0), .val (.int a1)] h).bind (finM none) := rfl
/-! PieceStoreModel.pushes -/
theorem dX12_pushes_0 : decode cX12_pushes 0 = .ok (.aload_n 0, 1) := by decide +kernel
theorem dX12_pushes_1 : decode cX12_pushes 1 = .ok (.getfield 78, 3) := by decide +kernel
theorem dX12_pushes_4 : decode cX12_pushes 4 = .ok (.aload_n 0, 1) := by decide +kernel
theorem dX12_pushes_5 : decode cX12_pushes 5 = .ok (.getfield 94, 3) := by decide +kernel
theorem dX12_pushes_8 : decode cX12_pushes 8 = .ok (.iload_n 1, 1) := by decide +kernel
theorem dX12_pushes_9 : decode cX12_pushes 9 = .ok (.iastore, 1) := by decide +kernel
theorem dX12_pushes_10 : decode cX12_pushes 10 = .ok (.aload_n 0, 1) := by decide +kernel
theorem dX12_pushes_11 : decode cX12_pushes 11 = .ok (.getfield 81, 3) := by decide +kernel
theorem dX12_pushes_14 : decode cX12_pushes 14 = .ok (.aload_n 0, 1) := by decide +kernel
theorem dX12_pushes_15 : decode cX12_pushes 15 = .ok (.getfield 94, 3) := by decide +kernel
theorem dX12_pushes_18 : decode cX12_pushes 18 = .ok (.iconst 0, 1) := by decide +kernel
theorem dX12_pushes_19 : decode cX12_pushes 19 = .ok (.iastore, 1) := by decide +kernel
theorem dX12_pushes_20 : decode cX12_pushes 20 = .ok (.aload_n 0, 1) := by decide +kernel
theorem dX12_pushes_21 : decode cX12_pushes 21 = .ok (.getfield 84, 3) := by decide +kernel
theorem dX12_pushes_24 : decode cX12_pushes 24 = .ok (.aload_n 0, 1) := by decide +kernel
theorem dX12_pushes_25 : decode cX12_pushes 25 = .ok (.getfield 94, 3) := by decide +kernel
theorem dX12_pushes_28 : decode cX12_pushes 28 = .ok (.iconst 1, 1) := by decide +kernel
theorem dX12_pushes_29 : decode cX12_pushes 29 = .ok (.bastore, 1) := by decide +kernel
theorem dX12_pushes_30 : decode cX12_pushes 30 = .ok (.aload_n 0, 1) := by decide +kernel
theorem dX12_pushes_31 : decode cX12_pushes 31 = .ok (.getfield 91, 3) := by decide +kernel
theorem dX12_pushes_34 : decode cX12_pushes 34 = .ok (.aload_n 0, 1) := by decide +kernel
theorem dX12_pushes_35 : decode cX12_pushes 35 = .ok (.getfield 94, 3) := by decide +kernel
theorem dX12_pushes_38 : decode cX12_pushes 38 = .ok (.aload_n 0, 1) := by decide +kernel
theorem dX12_pushes_39 : decode cX12_pushes 39 = .ok (.getfield 103, 3) := by decide +kernel
theorem dX12_pushes_42 : decode cX12_pushes 42 = .ok (.iastore, 1) := by decide +kernel
theorem dX12_pushes_43 : decode cX12_pushes 43 = .ok (.aload_n 0, 1) := by decide +kernel
theorem dX12_pushes_44 : decode cX12_pushes 44 = .ok (.dup, 1) := by decide +kernel
theorem dX12_pushes_45 : decode cX12_pushes 45 = .ok (.getfield 94, 3) := by decide +kernel
theorem dX12_pushes_48 : decode cX12_pushes 48 = .ok (.iconst 1, 1) := by decide +kernel
theorem dX12_pushes_49 : decode cX12_pushes 49 = .ok (.iadd, 1) := by decide +kernel
theorem dX12_pushes_50 : decode cX12_pushes 50 = .ok (.putfield 94, 3) := by decide +kernel
theorem dX12_pushes_53 : decode cX12_pushes 53 = .ok (.return_, 1) := by decide +kernel
abbrev MX12_pushes : MI := (RX12, cX12_pushes, 2, 1, false)
def bX12_pushes : St := (seqS (astI (getR 12 22 (lvR 0)) (getI 12 27 (lvR 0)) (lvI 1)) (seqS (astI (getR 12 23 (lvR 0)) (getI 12 27 (lvR 0)) (ciI (iI 0))) (seqS (astZ (getR 12 24 (lvR 0)) (getI 12 27 (lvR 0)) (ciI (iI 1))) (seqS (astI (getR 12 26 (lvR 0)) (getI 12 27 (lvR 0)) (getI 12 30 (lvR 0))) (seqS (updI 12 27 (fun x y => x + y) (lvR 0) (ciI (iI 1))) retV)))))
theorem jX12_pushes : JS MX12_pushes 0 0 0 54 [] bX12_pushes :=
  (JS.seq (pc1 := 10) (JS.ia (pc1 := 4) (pc2 := 8) (pc3 := 9) (JX.getR (pc1 := 1) (c := 12) (k := 22) (i := 78) (JX.al (k := 0) rfl dX12_pushes_0) cl12 (by decide) rfl fk12_78 dX12_pushes_1) (JX.getI (pc1 := 5) (c := 12) (k := 27) (i := 94) (JX.al (k := 0) rfl dX12_pushes_4) cl12 (by decide) rfl fk12_94 dX12_pushes_5) (JX.il (k := 1) rfl dX12_pushes_8) dX12_pushes_9) (JS.seq (pc1 := 20) (JS.ia (pc1 := 14) (pc2 := 18) (pc3 := 19) (JX.getR (pc1 := 11) (c := 12) (k := 23) (i := 81) (JX.al (k := 0) rfl dX12_pushes_10) cl12 (by decide) rfl fk12_81 dX12_pushes_11) (JX.getI (pc1 := 15) (c := 12) (k := 27) (i := 94) (JX.al (k := 0) rfl dX12_pushes_14) cl12 (by decide) rfl fk12_94 dX12_pushes_15) (JX.ic (n := 0) rfl dX12_pushes_18) dX12_pushes_19) (JS.seq (pc1 := 30) (JS.za (pc1 := 24) (pc2 := 28) (pc3 := 29) (JX.getR (pc1 := 21) (c := 12) (k := 24) (i := 84) (JX.al (k := 0) rfl dX12_pushes_20) cl12 (by decide) rfl fk12_84 dX12_pushes_21) (JX.getI (pc1 := 25) (c := 12) (k := 27) (i := 94) (JX.al (k := 0) rfl dX12_pushes_24) cl12 (by decide) rfl fk12_94 dX12_pushes_25) (JX.ic (n := 1) rfl dX12_pushes_28) dX12_pushes_29) (JS.seq (pc1 := 43) (JS.ia (pc1 := 34) (pc2 := 38) (pc3 := 42) (JX.getR (pc1 := 31) (c := 12) (k := 26) (i := 91) (JX.al (k := 0) rfl dX12_pushes_30) cl12 (by decide) rfl fk12_91 dX12_pushes_31) (JX.getI (pc1 := 35) (c := 12) (k := 27) (i := 94) (JX.al (k := 0) rfl dX12_pushes_34) cl12 (by decide) rfl fk12_94 dX12_pushes_35) (JX.getI (pc1 := 39) (c := 12) (k := 30) (i := 103) (JX.al (k := 0) rfl dX12_pushes_38) cl12 (by decide) rfl fk12_103 dX12_pushes_39) dX12_pushes_42) (JS.seq (pc1 := 53) (JS.upA (pc1 := 44) (pc2 := 49) (c := 12) (k := 27) (i := 94) (JX.al (k := 0) rfl dX12_pushes_43) dX12_pushes_44 cl12 (by decide) rfl fk12_94 (Or.inl rfl) dX12_pushes_45 (JX.ic (n := 1) rfl dX12_pushes_48) dX12_pushes_49 dX12_pushes_50) (JS.retV dX12_pushes_53))))))
def mX12_pushes : MS := runM 2 none bX12_pushes
theorem aX12_pushes : MA yX12_pushes cX12_pushes 2 none 1 mX12_pushes := MA.of (plainFor_of_name (by decide)) jX12_pushes
theorem eX12_pushes (a0 : Nat) (a1 : Int32) (h : AH) : mX12_pushes [.ref a0, .int a1] h = (bX12_pushes [.val (.ref a0), .val (.int a1)] h).bind (finM none) := rfl
/-! PieceStoreModel.opens -/
theorem dX12_opens_0 : decode cX12_opens 0 = .ok (.aload_n 0, 1) := by decide +kernel
theorem dX12_opens_1 : decode cX12_opens 1 = .ok (.getfield 97, 3) := by decide +kernel
theorem dX12_opens_4 : decode cX12_opens 4 = .ok (.bipush 7, 2) := by decide +kernel
theorem dX12_opens_6 : decode cX12_opens 6 = .ok (.if_icmp .ne 12, 3) := by decide +kernel
theorem dX12_opens_9 : decode cX12_opens 9 = .ok (.aload_n 0, 1) := by decide +kernel
theorem dX12_opens_10 : decode cX12_opens 10 = .ok (.iconst 5, 1) := by decide +kernel
theorem dX12_opens_11 : decode cX12_opens 11 = .ok (.aload_n 0, 1) := by decide +kernel
theorem dX12_opens_12 : decode cX12_opens 12 = .ok (.getfield 23, 3) := by decide +kernel
theorem dX12_opens_15 : decode cX12_opens 15 = .ok (.invokevirtual 235, 3) := by decide +kernel
theorem dX12_opens_18 : decode cX12_opens 18 = .ok (.aload_n 0, 1) := by decide +kernel
theorem dX12_opens_19 : decode cX12_opens 19 = .ok (.getfield 36, 3) := by decide +kernel
theorem dX12_opens_22 : decode cX12_opens 22 = .ok (.ifCond .le 4, 3) := by decide +kernel
theorem dX12_opens_25 : decode cX12_opens 25 = .ok (.return_, 1) := by decide +kernel
theorem dX12_opens_26 : decode cX12_opens 26 = .ok (.aload_n 0, 1) := by decide +kernel
theorem dX12_opens_27 : decode cX12_opens 27 = .ok (.dup, 1) := by decide +kernel
theorem dX12_opens_28 : decode cX12_opens 28 = .ok (.getfield 97, 3) := by decide +kernel
theorem dX12_opens_31 : decode cX12_opens 31 = .ok (.iconst 1, 1) := by decide +kernel
theorem dX12_opens_32 : decode cX12_opens 32 = .ok (.iadd, 1) := by decide +kernel
theorem dX12_opens_33 : decode cX12_opens 33 = .ok (.putfield 97, 3) := by decide +kernel
theorem dX12_opens_36 : decode cX12_opens 36 = .ok (.aload_n 0, 1) := by decide +kernel
theorem dX12_opens_37 : decode cX12_opens 37 = .ok (.invokevirtual 252, 3) := by decide +kernel
theorem dX12_opens_40 : decode cX12_opens 40 = .ok (.aload_n 0, 1) := by decide +kernel
theorem dX12_opens_41 : decode cX12_opens 41 = .ok (.iload_n 1, 1) := by decide +kernel
theorem dX12_opens_42 : decode cX12_opens 42 = .ok (.invokevirtual 323, 3) := by decide +kernel
theorem dX12_opens_45 : decode cX12_opens 45 = .ok (.return_, 1) := by decide +kernel
abbrev MX12_opens : MI := (RX12, cX12_opens, 2, 3, false)
def bX12_opens : St := (seqS (ifS (eqI (getI 12 28 (lvR 0)) (ciI (iI 7))) (calS (ckV 12 2) mX12_blame (agC va_rf (lvR 0) (agC Value.int (ciI (iI 5)) (agC Value.int (getI 12 4 (lvR 0)) agN))))) (seqS (ifS (gt0 (getI 12 8 (lvR 0))) retV) (seqS (updI 12 28 (fun x y => x + y) (lvR 0) (ciI (iI 1))) (seqS (calS (ckV 12 0) mX12_ahead (agC va_rf (lvR 0) agN)) (seqS (calS (ckV 12 1) mX12_pushes (agC va_rf (lvR 0) (agC Value.int (lvI 1) agN))) retV)))))
theorem jX12_opens : JS MX12_opens 0 0 0 46 [] bX12_opens :=
  (JS.seq (pc1 := 18) (JS.iff (l := 18) (pc1 := 9) (CJ.eq_f (tgt := 18) (pc1 := 4) (pc2 := 6) (JX.getI (pc1 := 1) (c := 12) (k := 28) (i := 97) (JX.al (k := 0) rfl dX12_opens_0) cl12 (by decide) rfl fk12_97 dX12_opens_1) (JX.bp (n := 7) kb7 dX12_opens_4) dX12_opens_6 rfl) (JS.call (pc1 := 15) (JA.r (JX.al (k := 0) rfl dX12_opens_9) (JA.i (JX.ic (n := 5) rfl dX12_opens_10) (JA.i (JX.getI (pc1 := 12) (c := 12) (k := 4) (i := 23) (JX.al (k := 0) rfl dX12_opens_11) cl12 (by decide) rfl fk12_23 dX12_opens_12) JA.nil))) aX12_blame (RunK.V (i := 235) (c := 12) (n := 2) cl12 rfl (CN nX12_blame (by decide) (by decide)) gw1577 gw1579 gs62 dX12_opens_15)) (Or.inl rfl)) (JS.seq (pc1 := 26) (JS.iff (l := 26) (pc1 := 25) (CJ.gt0_f (tgt := 26) (pc1 := 22) (JX.getI (pc1 := 19) (c := 12) (k := 8) (i := 36) (JX.al (k := 0) rfl dX12_opens_18) cl12 (by decide) rfl fk12_36 dX12_opens_19) dX12_opens_22 rfl) (JS.retV dX12_opens_25) (Or.inl rfl)) (JS.seq (pc1 := 36) (JS.upA (pc1 := 27) (pc2 := 32) (c := 12) (k := 28) (i := 97) (JX.al (k := 0) rfl dX12_opens_26) dX12_opens_27 cl12 (by decide) rfl fk12_97 (Or.inl rfl) dX12_opens_28 (JX.ic (n := 1) rfl dX12_opens_31) dX12_opens_32 dX12_opens_33) (JS.seq (pc1 := 40) (JS.call (pc1 := 37) (JA.r (JX.al (k := 0) rfl dX12_opens_36) JA.nil) aX12_ahead (RunK.V (i := 252) (c := 12) (n := 0) cl12 rfl (CN nX12_ahead (by decide) (by decide)) gw1554 gw1556 gs58 dX12_opens_37)) (JS.seq (pc1 := 45) (JS.call (pc1 := 42) (JA.r (JX.al (k := 0) rfl dX12_opens_40) (JA.i (JX.il (k := 1) rfl dX12_opens_41) JA.nil)) aX12_pushes (RunK.V (i := 323) (c := 12) (n := 1) cl12 rfl (CN nX12_pushes (by decide) (by decide)) gw1634 gw1636 gs73 dX12_opens_42)) (JS.retV dX12_opens_45))))))
def mX12_opens : MS := runM 2 none bX12_opens
theorem aX12_opens : MA yX12_opens cX12_opens 2 none 3 mX12_opens := MA.of (plainFor_of_name (by decide)) jX12_opens
theorem eX12_opens (a0 : Nat) (a1 : Int32) (h : AH) : mX12_opens [.ref a0, .int a1] h = (bX12_opens [.val (.ref a0), .val (.int a1)] h).bind (finM none) := rfl
/-! PieceStoreModel.isTest -/
theorem dX12_isTest_0 : decode cX12_isTest 0 = .ok (.iload_n 0, 1) := by decide +kernel
theorem dX12_isTest_1 : decode cX12_isTest 1 = .ok (.iconst 1, 1) := by decide +kernel
theorem dX12_isTest_2 : decode cX12_isTest 2 = .ok (.if_icmp .eq 14, 3) := by decide +kernel
theorem dX12_isTest_5 : decode cX12_isTest 5 = .ok (.iload_n 0, 1) := by decide +kernel
theorem dX12_isTest_6 : decode cX12_isTest 6 = .ok (.iconst 5, 1) := by decide +kernel
theorem dX12_isTest_7 : decode cX12_isTest 7 = .ok (.if_icmp .eq 9, 3) := by decide +kernel
theorem dX12_isTest_10 : decode cX12_isTest 10 = .ok (.iload_n 0, 1) := by decide +kernel
theorem dX12_isTest_11 : decode cX12_isTest 11 = .ok (.bipush 6, 2) := by decide +kernel
theorem dX12_isTest_13 : decode cX12_isTest 13 = .ok (.if_icmp .ne 7, 3) := by decide +kernel
theorem dX12_isTest_16 : decode cX12_isTest 16 = .ok (.iconst 1, 1) := by decide +kernel
theorem dX12_isTest_17 : decode cX12_isTest 17 = .ok (.goto 4, 3) := by decide +kernel
theorem dX12_isTest_20 : decode cX12_isTest 20 = .ok (.iconst 0, 1) := by decide +kernel
theorem dX12_isTest_21 : decode cX12_isTest 21 = .ok (.ireturn, 1) := by decide +kernel
abbrev MX12_isTest : MI := (RX12, cX12_isTest, 1, 1, false)
def bX12_isTest : St := (retI (iteX (orX (orX (eqI (lvI 0) (ciI (iI 1))) (eqI (lvI 0) (ciI (iI 5)))) (eqI (lvI 0) (ciI (iI 6)))) (ciI (iI 1)) (ciI (iI 0))))
theorem jX12_isTest : JS MX12_isTest 0 0 0 22 [] bX12_isTest :=
  (JS.retI (pc1 := 21) (JX.ite (l := 20) (pc1 := 16) (pc2 := 17) (pc3 := 21) (lend := 21) (CJ.or_f (l := 16) (pc1 := 10) (CJ.or_t (pc1 := 5) (CJ.eq_t (tgt := 16) (pc1 := 1) (pc2 := 2) (JX.il (k := 0) rfl dX12_isTest_0) (JX.ic (n := 1) rfl dX12_isTest_1) dX12_isTest_2 rfl) (CJ.eq_t (tgt := 16) (pc1 := 6) (pc2 := 7) (JX.il (k := 0) rfl dX12_isTest_5) (JX.ic (n := 5) rfl dX12_isTest_6) dX12_isTest_7 rfl)) (CJ.eq_f (tgt := 20) (pc1 := 11) (pc2 := 13) (JX.il (k := 0) rfl dX12_isTest_10) (JX.bp (n := 6) kb6 dX12_isTest_11) dX12_isTest_13 rfl) (Or.inl rfl)) (JX.ic (n := 1) rfl dX12_isTest_16) dX12_isTest_17 rfl (JX.ic (n := 0) rfl dX12_isTest_20) (Or.inl rfl)) dX12_isTest_21)
def mX12_isTest : MS := runM 1 (some (.boolean)) bX12_isTest
theorem aX12_isTest : MA yX12_isTest cX12_isTest 1 (some (.boolean)) 1 mX12_isTest := MA.of (plainFor_of_name (by decide)) jX12_isTest
theorem eX12_isTest (a0 : Int32) (h : AH) : mX12_isTest [.int a0] h = (bX12_isTest [.val (.int a0)] h).bind (finM (some (.boolean))) := rfl
/-! PieceStoreModel.operand -/
theorem dX12_operand_0 : decode cX12_operand 0 = .ok (.aload_n 0, 1) := by decide +kernel
theorem dX12_operand_1 : decode cX12_operand 1 = .ok (.invokevirtual 246, 3) := by decide +kernel
theorem dX12_operand_4 : decode cX12_operand 4 = .ok (.aload_n 0, 1) := by decide +kernel
theorem dX12_operand_5 : decode cX12_operand 5 = .ok (.getfield 36, 3) := by decide +kernel
theorem dX12_operand_8 : decode cX12_operand 8 = .ok (.ifCond .le 5, 3) := by decide +kernel
theorem dX12_operand_11 : decode cX12_operand 11 = .ok (.iconst 1, 1) := by decide +kernel
theorem dX12_operand_12 : decode cX12_operand 12 = .ok (.ireturn, 1) := by decide +kernel
theorem dX12_operand_13 : decode cX12_operand 13 = .ok (.aload_n 0, 1) := by decide +kernel
theorem dX12_operand_14 : decode cX12_operand 14 = .ok (.getfield 94, 3) := by decide +kernel
theorem dX12_operand_17 : decode cX12_operand 17 = .ok (.iconst 1, 1) := by decide +kernel
theorem dX12_operand_18 : decode cX12_operand 18 = .ok (.isub, 1) := by decide +kernel
theorem dX12_operand_19 : decode cX12_operand 19 = .ok (.istore_n 1, 1) := by decide +kernel
theorem dX12_operand_20 : decode cX12_operand 20 = .ok (.aload_n 0, 1) := by decide +kernel
theorem dX12_operand_21 : decode cX12_operand 21 = .ok (.getfield 78, 3) := by decide +kernel
theorem dX12_operand_24 : decode cX12_operand 24 = .ok (.iload_n 1, 1) := by decide +kernel
theorem dX12_operand_25 : decode cX12_operand 25 = .ok (.iaload, 1) := by decide +kernel
theorem dX12_operand_26 : decode cX12_operand 26 = .ok (.invokestatic 326, 3) := by decide +kernel
theorem dX12_operand_29 : decode cX12_operand 29 = .ok (.ifCond .eq 16, 3) := by decide +kernel
theorem dX12_operand_32 : decode cX12_operand 32 = .ok (.aload_n 0, 1) := by decide +kernel
theorem dX12_operand_33 : decode cX12_operand 33 = .ok (.getfield 84, 3) := by decide +kernel
theorem dX12_operand_36 : decode cX12_operand 36 = .ok (.iload_n 1, 1) := by decide +kernel
theorem dX12_operand_37 : decode cX12_operand 37 = .ok (.baload, 1) := by decide +kernel
theorem dX12_operand_38 : decode cX12_operand 38 = .ok (.ifCond .eq 7, 3) := by decide +kernel
theorem dX12_operand_41 : decode cX12_operand 41 = .ok (.iconst 1, 1) := by decide +kernel
theorem dX12_operand_42 : decode cX12_operand 42 = .ok (.goto 4, 3) := by decide +kernel
theorem dX12_operand_45 : decode cX12_operand 45 = .ok (.iconst 0, 1) := by decide +kernel
theorem dX12_operand_46 : decode cX12_operand 46 = .ok (.istore_n 2, 1) := by decide +kernel
theorem dX12_operand_47 : decode cX12_operand 47 = .ok (.iload_n 2, 1) := by decide +kernel
theorem dX12_operand_48 : decode cX12_operand 48 = .ok (.ifCond .eq 62, 3) := by decide +kernel
theorem dX12_operand_51 : decode cX12_operand 51 = .ok (.aload_n 0, 1) := by decide +kernel
theorem dX12_operand_52 : decode cX12_operand 52 = .ok (.ldc2_w 305, 3) := by decide +kernel
theorem dX12_operand_55 : decode cX12_operand 55 = .ok (.invokevirtual 329, 3) := by decide +kernel
theorem dX12_operand_58 : decode cX12_operand 58 = .ok (.ifCond .eq 52, 3) := by decide +kernel
theorem dX12_operand_61 : decode cX12_operand 61 = .ok (.aload_n 0, 1) := by decide +kernel
theorem dX12_operand_62 : decode cX12_operand 62 = .ok (.getfield 97, 3) := by decide +kernel
theorem dX12_operand_65 : decode cX12_operand 65 = .ok (.bipush 7, 2) := by decide +kernel
theorem dX12_operand_67 : decode cX12_operand 67 = .ok (.if_icmp .ne 12, 3) := by decide +kernel
theorem dX12_operand_70 : decode cX12_operand 70 = .ok (.aload_n 0, 1) := by decide +kernel
theorem dX12_operand_71 : decode cX12_operand 71 = .ok (.iconst 5, 1) := by decide +kernel
theorem dX12_operand_72 : decode cX12_operand 72 = .ok (.aload_n 0, 1) := by decide +kernel
theorem dX12_operand_73 : decode cX12_operand 73 = .ok (.getfield 23, 3) := by decide +kernel
theorem dX12_operand_76 : decode cX12_operand 76 = .ok (.invokevirtual 235, 3) := by decide +kernel
theorem dX12_operand_79 : decode cX12_operand 79 = .ok (.aload_n 0, 1) := by decide +kernel
theorem dX12_operand_80 : decode cX12_operand 80 = .ok (.getfield 36, 3) := by decide +kernel
theorem dX12_operand_83 : decode cX12_operand 83 = .ok (.ifCond .le 5, 3) := by decide +kernel
theorem dX12_operand_86 : decode cX12_operand 86 = .ok (.iconst 1, 1) := by decide +kernel
theorem dX12_operand_87 : decode cX12_operand 87 = .ok (.ireturn, 1) := by decide +kernel
theorem dX12_operand_88 : decode cX12_operand 88 = .ok (.aload_n 0, 1) := by decide +kernel
theorem dX12_operand_89 : decode cX12_operand 89 = .ok (.dup, 1) := by decide +kernel
theorem dX12_operand_90 : decode cX12_operand 90 = .ok (.getfield 97, 3) := by decide +kernel
theorem dX12_operand_93 : decode cX12_operand 93 = .ok (.iconst 1, 1) := by decide +kernel
theorem dX12_operand_94 : decode cX12_operand 94 = .ok (.iadd, 1) := by decide +kernel
theorem dX12_operand_95 : decode cX12_operand 95 = .ok (.putfield 97, 3) := by decide +kernel
theorem dX12_operand_98 : decode cX12_operand 98 = .ok (.aload_n 0, 1) := by decide +kernel
theorem dX12_operand_99 : decode cX12_operand 99 = .ok (.bipush 43, 2) := by decide +kernel
theorem dX12_operand_101 : decode cX12_operand 101 = .ok (.invokevirtual 333, 3) := by decide +kernel
theorem dX12_operand_104 : decode cX12_operand 104 = .ok (.aload_n 0, 1) := by decide +kernel
theorem dX12_operand_105 : decode cX12_operand 105 = .ok (.invokevirtual 252, 3) := by decide +kernel
theorem dX12_operand_108 : decode cX12_operand 108 = .ok (.iconst 0, 1) := by decide +kernel
theorem dX12_operand_109 : decode cX12_operand 109 = .ok (.ireturn, 1) := by decide +kernel
theorem dX12_operand_110 : decode cX12_operand 110 = .ok (.aload_n 0, 1) := by decide +kernel
theorem dX12_operand_111 : decode cX12_operand 111 = .ok (.getfield 84, 3) := by decide +kernel
theorem dX12_operand_114 : decode cX12_operand 114 = .ok (.iload_n 1, 1) := by decide +kernel
theorem dX12_operand_115 : decode cX12_operand 115 = .ok (.iconst 0, 1) := by decide +kernel
theorem dX12_operand_116 : decode cX12_operand 116 = .ok (.bastore, 1) := by decide +kernel
theorem dX12_operand_117 : decode cX12_operand 117 = .ok (.iload_n 2, 1) := by decide +kernel
theorem dX12_operand_118 : decode cX12_operand 118 = .ok (.ifCond .eq 19, 3) := by decide +kernel
theorem dX12_operand_121 : decode cX12_operand 121 = .ok (.aload_n 0, 1) := by decide +kernel
theorem dX12_operand_122 : decode cX12_operand 122 = .ok (.bipush 91, 2) := by decide +kernel
theorem dX12_operand_124 : decode cX12_operand 124 = .ok (.invokevirtual 249, 3) := by decide +kernel
theorem dX12_operand_127 : decode cX12_operand 127 = .ok (.ifCond .eq 10, 3) := by decide +kernel
theorem dX12_operand_130 : decode cX12_operand 130 = .ok (.aload_n 0, 1) := by decide +kernel
theorem dX12_operand_131 : decode cX12_operand 131 = .ok (.iconst 5, 1) := by decide +kernel
theorem dX12_operand_132 : decode cX12_operand 132 = .ok (.invokevirtual 336, 3) := by decide +kernel
theorem dX12_operand_135 : decode cX12_operand 135 = .ok (.iconst 0, 1) := by decide +kernel
theorem dX12_operand_136 : decode cX12_operand 136 = .ok (.ireturn, 1) := by decide +kernel
theorem dX12_operand_137 : decode cX12_operand 137 = .ok (.iload_n 2, 1) := by decide +kernel
theorem dX12_operand_138 : decode cX12_operand 138 = .ok (.ifCond .eq 33, 3) := by decide +kernel
theorem dX12_operand_141 : decode cX12_operand 141 = .ok (.aload_n 0, 1) := by decide +kernel
theorem dX12_operand_142 : decode cX12_operand 142 = .ok (.ldc2_w 307, 3) := by decide +kernel
theorem dX12_operand_145 : decode cX12_operand 145 = .ok (.invokevirtual 329, 3) := by decide +kernel
theorem dX12_operand_148 : decode cX12_operand 148 = .ok (.ifCond .eq 23, 3) := by decide +kernel
theorem dX12_operand_151 : decode cX12_operand 151 = .ok (.aload_n 0, 1) := by decide +kernel
theorem dX12_operand_152 : decode cX12_operand 152 = .ok (.bipush 30, 2) := by decide +kernel
theorem dX12_operand_154 : decode cX12_operand 154 = .ok (.iconst 0, 1) := by decide +kernel
theorem dX12_operand_155 : decode cX12_operand 155 = .ok (.invokevirtual 320, 3) := by decide +kernel
theorem dX12_operand_158 : decode cX12_operand 158 = .ok (.aload_n 0, 1) := by decide +kernel
theorem dX12_operand_159 : decode cX12_operand 159 = .ok (.getfield 81, 3) := by decide +kernel
theorem dX12_operand_162 : decode cX12_operand 162 = .ok (.iload_n 1, 1) := by decide +kernel
theorem dX12_operand_163 : decode cX12_operand 163 = .ok (.iconst 2, 1) := by decide +kernel
theorem dX12_operand_164 : decode cX12_operand 164 = .ok (.iastore, 1) := by decide +kernel
theorem dX12_operand_165 : decode cX12_operand 165 = .ok (.aload_n 0, 1) := by decide +kernel
theorem dX12_operand_166 : decode cX12_operand 166 = .ok (.invokevirtual 252, 3) := by decide +kernel
theorem dX12_operand_169 : decode cX12_operand 169 = .ok (.iconst 1, 1) := by decide +kernel
theorem dX12_operand_170 : decode cX12_operand 170 = .ok (.ireturn, 1) := by decide +kernel
theorem dX12_operand_171 : decode cX12_operand 171 = .ok (.aload_n 0, 1) := by decide +kernel
theorem dX12_operand_172 : decode cX12_operand 172 = .ok (.bipush 40, 2) := by decide +kernel
theorem dX12_operand_174 : decode cX12_operand 174 = .ok (.invokevirtual 249, 3) := by decide +kernel
theorem dX12_operand_177 : decode cX12_operand 177 = .ok (.ifCond .eq 10, 3) := by decide +kernel
theorem dX12_operand_180 : decode cX12_operand 180 = .ok (.aload_n 0, 1) := by decide +kernel
theorem dX12_operand_181 : decode cX12_operand 181 = .ok (.iconst 2, 1) := by decide +kernel
theorem dX12_operand_182 : decode cX12_operand 182 = .ok (.invokevirtual 336, 3) := by decide +kernel
theorem dX12_operand_185 : decode cX12_operand 185 = .ok (.iconst 0, 1) := by decide +kernel
theorem dX12_operand_186 : decode cX12_operand 186 = .ok (.ireturn, 1) := by decide +kernel
theorem dX12_operand_187 : decode cX12_operand 187 = .ok (.aload_n 0, 1) := by decide +kernel
theorem dX12_operand_188 : decode cX12_operand 188 = .ok (.ldc2_w 309, 3) := by decide +kernel
theorem dX12_operand_191 : decode cX12_operand 191 = .ok (.invokevirtual 329, 3) := by decide +kernel
theorem dX12_operand_194 : decode cX12_operand 194 = .ok (.ifCond .ne 23, 3) := by decide +kernel
theorem dX12_operand_197 : decode cX12_operand 197 = .ok (.aload_n 0, 1) := by decide +kernel
theorem dX12_operand_198 : decode cX12_operand 198 = .ok (.ldc2_w 311, 3) := by decide +kernel
theorem dX12_operand_201 : decode cX12_operand 201 = .ok (.invokevirtual 329, 3) := by decide +kernel
theorem dX12_operand_204 : decode cX12_operand 204 = .ok (.ifCond .ne 13, 3) := by decide +kernel
theorem dX12_operand_207 : decode cX12_operand 207 = .ok (.aload_n 0, 1) := by decide +kernel
theorem dX12_operand_208 : decode cX12_operand 208 = .ok (.ldc2_w 299, 3) := by decide +kernel
theorem dX12_operand_211 : decode cX12_operand 211 = .ok (.invokevirtual 329, 3) := by decide +kernel
theorem dX12_operand_214 : decode cX12_operand 214 = .ok (.ifCond .eq 99, 3) := by decide +kernel
theorem dX12_operand_217 : decode cX12_operand 217 = .ok (.aload_n 0, 1) := by decide +kernel
theorem dX12_operand_218 : decode cX12_operand 218 = .ok (.ldc2_w 309, 3) := by decide +kernel
theorem dX12_operand_221 : decode cX12_operand 221 = .ok (.invokevirtual 329, 3) := by decide +kernel
theorem dX12_operand_224 : decode cX12_operand 224 = .ok (.ifCond .eq 8, 3) := by decide +kernel
theorem dX12_operand_227 : decode cX12_operand 227 = .ok (.bipush 36, 2) := by decide +kernel
theorem dX12_operand_229 : decode cX12_operand 229 = .ok (.goto 20, 3) := by decide +kernel
theorem dX12_operand_232 : decode cX12_operand 232 = .ok (.aload_n 0, 1) := by decide +kernel
theorem dX12_operand_233 : decode cX12_operand 233 = .ok (.ldc2_w 311, 3) := by decide +kernel
theorem dX12_operand_236 : decode cX12_operand 236 = .ok (.invokevirtual 329, 3) := by decide +kernel
theorem dX12_operand_239 : decode cX12_operand 239 = .ok (.ifCond .eq 8, 3) := by decide +kernel
theorem dX12_operand_242 : decode cX12_operand 242 = .ok (.bipush 37, 2) := by decide +kernel
theorem dX12_operand_244 : decode cX12_operand 244 = .ok (.goto 5, 3) := by decide +kernel
theorem dX12_operand_247 : decode cX12_operand 247 = .ok (.bipush 44, 2) := by decide +kernel
theorem dX12_operand_249 : decode cX12_operand 249 = .ok (.istore_n 3, 1) := by decide +kernel
theorem dX12_operand_250 : decode cX12_operand 250 = .ok (.aload_n 0, 1) := by decide +kernel
theorem dX12_operand_251 : decode cX12_operand 251 = .ok (.invokevirtual 252, 3) := by decide +kernel
theorem dX12_operand_254 : decode cX12_operand 254 = .ok (.aload_n 0, 1) := by decide +kernel
theorem dX12_operand_255 : decode cX12_operand 255 = .ok (.invokevirtual 246, 3) := by decide +kernel
theorem dX12_operand_258 : decode cX12_operand 258 = .ok (.aload_n 0, 1) := by decide +kernel
theorem dX12_operand_259 : decode cX12_operand 259 = .ok (.bipush 40, 2) := by decide +kernel
theorem dX12_operand_261 : decode cX12_operand 261 = .ok (.invokevirtual 249, 3) := by decide +kernel
theorem dX12_operand_264 : decode cX12_operand 264 = .ok (.ifCond .ne 12, 3) := by decide +kernel
theorem dX12_operand_267 : decode cX12_operand 267 = .ok (.aload_n 0, 1) := by decide +kernel
theorem dX12_operand_268 : decode cX12_operand 268 = .ok (.iconst 1, 1) := by decide +kernel
theorem dX12_operand_269 : decode cX12_operand 269 = .ok (.aload_n 0, 1) := by decide +kernel
theorem dX12_operand_270 : decode cX12_operand 270 = .ok (.getfield 23, 3) := by decide +kernel
theorem dX12_operand_273 : decode cX12_operand 273 = .ok (.invokevirtual 235, 3) := by decide +kernel
theorem dX12_operand_276 : decode cX12_operand 276 = .ok (.aload_n 0, 1) := by decide +kernel
theorem dX12_operand_277 : decode cX12_operand 277 = .ok (.iload_n 3, 1) := by decide +kernel
theorem dX12_operand_278 : decode cX12_operand 278 = .ok (.bipush 44, 2) := by decide +kernel
theorem dX12_operand_280 : decode cX12_operand 280 = .ok (.if_icmp .ne 8, 3) := by decide +kernel
theorem dX12_operand_283 : decode cX12_operand 283 = .ok (.bipush 6, 2) := by decide +kernel
theorem dX12_operand_285 : decode cX12_operand 285 = .ok (.goto 4, 3) := by decide +kernel
theorem dX12_operand_288 : decode cX12_operand 288 = .ok (.iconst 3, 1) := by decide +kernel
theorem dX12_operand_289 : decode cX12_operand 289 = .ok (.invokevirtual 336, 3) := by decide +kernel
theorem dX12_operand_292 : decode cX12_operand 292 = .ok (.aload_n 0, 1) := by decide +kernel
theorem dX12_operand_293 : decode cX12_operand 293 = .ok (.getfield 36, 3) := by decide +kernel
theorem dX12_operand_296 : decode cX12_operand 296 = .ok (.ifCond .ne 15, 3) := by decide +kernel
theorem dX12_operand_299 : decode cX12_operand 299 = .ok (.aload_n 0, 1) := by decide +kernel
theorem dX12_operand_300 : decode cX12_operand 300 = .ok (.getfield 88, 3) := by decide +kernel
theorem dX12_operand_303 : decode cX12_operand 303 = .ok (.aload_n 0, 1) := by decide +kernel
theorem dX12_operand_304 : decode cX12_operand 304 = .ok (.getfield 94, 3) := by decide +kernel
theorem dX12_operand_307 : decode cX12_operand 307 = .ok (.iconst 1, 1) := by decide +kernel
theorem dX12_operand_308 : decode cX12_operand 308 = .ok (.isub, 1) := by decide +kernel
theorem dX12_operand_309 : decode cX12_operand 309 = .ok (.iload_n 3, 1) := by decide +kernel
theorem dX12_operand_310 : decode cX12_operand 310 = .ok (.iastore, 1) := by decide +kernel
theorem dX12_operand_311 : decode cX12_operand 311 = .ok (.iconst 0, 1) := by decide +kernel
theorem dX12_operand_312 : decode cX12_operand 312 = .ok (.ireturn, 1) := by decide +kernel
theorem dX12_operand_313 : decode cX12_operand 313 = .ok (.aload_n 0, 1) := by decide +kernel
theorem dX12_operand_314 : decode cX12_operand 314 = .ok (.getfield 20, 3) := by decide +kernel
theorem dX12_operand_317 : decode cX12_operand 317 = .ok (.iconst 2, 1) := by decide +kernel
theorem dX12_operand_318 : decode cX12_operand 318 = .ok (.if_icmp .ne 7, 3) := by decide +kernel
theorem dX12_operand_321 : decode cX12_operand 321 = .ok (.iconst 0, 1) := by decide +kernel
theorem dX12_operand_322 : decode cX12_operand 322 = .ok (.goto 149, 3) := by decide +kernel
theorem dX12_operand_325 : decode cX12_operand 325 = .ok (.aload_n 0, 1) := by decide +kernel
theorem dX12_operand_326 : decode cX12_operand 326 = .ok (.ldc2_w 281, 3) := by decide +kernel
theorem dX12_operand_329 : decode cX12_operand 329 = .ok (.invokevirtual 329, 3) := by decide +kernel
theorem dX12_operand_332 : decode cX12_operand 332 = .ok (.ifCond .eq 7, 3) := by decide +kernel
theorem dX12_operand_335 : decode cX12_operand 335 = .ok (.iconst 1, 1) := by decide +kernel
theorem dX12_operand_336 : decode cX12_operand 336 = .ok (.goto 135, 3) := by decide +kernel
theorem dX12_operand_339 : decode cX12_operand 339 = .ok (.aload_n 0, 1) := by decide +kernel
theorem dX12_operand_340 : decode cX12_operand 340 = .ok (.ldc2_w 285, 3) := by decide +kernel
theorem dX12_operand_343 : decode cX12_operand 343 = .ok (.invokevirtual 329, 3) := by decide +kernel
theorem dX12_operand_346 : decode cX12_operand 346 = .ok (.ifCond .eq 7, 3) := by decide +kernel
theorem dX12_operand_349 : decode cX12_operand 349 = .ok (.iconst 2, 1) := by decide +kernel
theorem dX12_operand_350 : decode cX12_operand 350 = .ok (.goto 121, 3) := by decide +kernel
theorem dX12_operand_353 : decode cX12_operand 353 = .ok (.aload_n 0, 1) := by decide +kernel
theorem dX12_operand_354 : decode cX12_operand 354 = .ok (.ldc2_w 283, 3) := by decide +kernel
theorem dX12_operand_357 : decode cX12_operand 357 = .ok (.invokevirtual 329, 3) := by decide +kernel
theorem dX12_operand_360 : decode cX12_operand 360 = .ok (.ifCond .eq 7, 3) := by decide +kernel
theorem dX12_operand_363 : decode cX12_operand 363 = .ok (.iconst 3, 1) := by decide +kernel
theorem dX12_operand_364 : decode cX12_operand 364 = .ok (.goto 107, 3) := by decide +kernel
theorem dX12_operand_367 : decode cX12_operand 367 = .ok (.aload_n 0, 1) := by decide +kernel
theorem dX12_operand_368 : decode cX12_operand 368 = .ok (.ldc2_w 287, 3) := by decide +kernel
theorem dX12_operand_371 : decode cX12_operand 371 = .ok (.invokevirtual 329, 3) := by decide +kernel
theorem dX12_operand_374 : decode cX12_operand 374 = .ok (.ifCond .eq 7, 3) := by decide +kernel
theorem dX12_operand_377 : decode cX12_operand 377 = .ok (.iconst 4, 1) := by decide +kernel
theorem dX12_operand_378 : decode cX12_operand 378 = .ok (.goto 93, 3) := by decide +kernel
theorem dX12_operand_381 : decode cX12_operand 381 = .ok (.aload_n 0, 1) := by decide +kernel
theorem dX12_operand_382 : decode cX12_operand 382 = .ok (.ldc2_w 261, 3) := by decide +kernel
theorem dX12_operand_385 : decode cX12_operand 385 = .ok (.invokevirtual 329, 3) := by decide +kernel
theorem dX12_operand_388 : decode cX12_operand 388 = .ok (.ifCond .eq 7, 3) := by decide +kernel
theorem dX12_operand_391 : decode cX12_operand 391 = .ok (.iconst 5, 1) := by decide +kernel
theorem dX12_operand_392 : decode cX12_operand 392 = .ok (.goto 79, 3) := by decide +kernel
theorem dX12_operand_395 : decode cX12_operand 395 = .ok (.aload_n 0, 1) := by decide +kernel
theorem dX12_operand_396 : decode cX12_operand 396 = .ok (.ldc2_w 289, 3) := by decide +kernel
theorem dX12_operand_399 : decode cX12_operand 399 = .ok (.invokevirtual 329, 3) := by decide +kernel
theorem dX12_operand_402 : decode cX12_operand 402 = .ok (.ifCond .eq 8, 3) := by decide +kernel
theorem dX12_operand_405 : decode cX12_operand 405 = .ok (.bipush 6, 2) := by decide +kernel
theorem dX12_operand_407 : decode cX12_operand 407 = .ok (.goto 64, 3) := by decide +kernel
theorem dX12_operand_410 : decode cX12_operand 410 = .ok (.aload_n 0, 1) := by decide +kernel
theorem dX12_operand_411 : decode cX12_operand 411 = .ok (.ldc2_w 291, 3) := by decide +kernel
theorem dX12_operand_414 : decode cX12_operand 414 = .ok (.invokevirtual 329, 3) := by decide +kernel
theorem dX12_operand_417 : decode cX12_operand 417 = .ok (.ifCond .eq 8, 3) := by decide +kernel
theorem dX12_operand_420 : decode cX12_operand 420 = .ok (.bipush 7, 2) := by decide +kernel
theorem dX12_operand_422 : decode cX12_operand 422 = .ok (.goto 49, 3) := by decide +kernel
theorem dX12_operand_425 : decode cX12_operand 425 = .ok (.aload_n 0, 1) := by decide +kernel
theorem dX12_operand_426 : decode cX12_operand 426 = .ok (.ldc2_w 293, 3) := by decide +kernel
theorem dX12_operand_429 : decode cX12_operand 429 = .ok (.invokevirtual 329, 3) := by decide +kernel
theorem dX12_operand_432 : decode cX12_operand 432 = .ok (.ifCond .eq 8, 3) := by decide +kernel
theorem dX12_operand_435 : decode cX12_operand 435 = .ok (.bipush 8, 2) := by decide +kernel
theorem dX12_operand_437 : decode cX12_operand 437 = .ok (.goto 34, 3) := by decide +kernel
theorem dX12_operand_440 : decode cX12_operand 440 = .ok (.aload_n 0, 1) := by decide +kernel
theorem dX12_operand_441 : decode cX12_operand 441 = .ok (.ldc2_w 295, 3) := by decide +kernel
theorem dX12_operand_444 : decode cX12_operand 444 = .ok (.invokevirtual 329, 3) := by decide +kernel
theorem dX12_operand_447 : decode cX12_operand 447 = .ok (.ifCond .eq 8, 3) := by decide +kernel
theorem dX12_operand_450 : decode cX12_operand 450 = .ok (.bipush 9, 2) := by decide +kernel
theorem dX12_operand_452 : decode cX12_operand 452 = .ok (.goto 19, 3) := by decide +kernel
theorem dX12_operand_455 : decode cX12_operand 455 = .ok (.aload_n 0, 1) := by decide +kernel
theorem dX12_operand_456 : decode cX12_operand 456 = .ok (.ldc2_w 297, 3) := by decide +kernel
theorem dX12_operand_459 : decode cX12_operand 459 = .ok (.invokevirtual 329, 3) := by decide +kernel
theorem dX12_operand_462 : decode cX12_operand 462 = .ok (.ifCond .eq 8, 3) := by decide +kernel
theorem dX12_operand_465 : decode cX12_operand 465 = .ok (.bipush 10, 2) := by decide +kernel
theorem dX12_operand_467 : decode cX12_operand 467 = .ok (.goto 4, 3) := by decide +kernel
theorem dX12_operand_470 : decode cX12_operand 470 = .ok (.iconst (-1), 1) := by decide +kernel
theorem dX12_operand_471 : decode cX12_operand 471 = .ok (.istore_n 3, 1) := by decide +kernel
theorem dX12_operand_472 : decode cX12_operand 472 = .ok (.iload_n 3, 1) := by decide +kernel
theorem dX12_operand_473 : decode cX12_operand 473 = .ok (.iconst 2, 1) := by decide +kernel
theorem dX12_operand_474 : decode cX12_operand 474 = .ok (.if_icmp .ne 11, 3) := by decide +kernel
theorem dX12_operand_477 : decode cX12_operand 477 = .ok (.aload_n 0, 1) := by decide +kernel
theorem dX12_operand_478 : decode cX12_operand 478 = .ok (.getfield 75, 3) := by decide +kernel
theorem dX12_operand_481 : decode cX12_operand 481 = .ok (.iconst 2, 1) := by decide +kernel
theorem dX12_operand_482 : decode cX12_operand 482 = .ok (.if_icmp .eq 36, 3) := by decide +kernel
theorem dX12_operand_485 : decode cX12_operand 485 = .ok (.iload_n 3, 1) := by decide +kernel
theorem dX12_operand_486 : decode cX12_operand 486 = .ok (.iconst 2, 1) := by decide +kernel
theorem dX12_operand_487 : decode cX12_operand 487 = .ok (.if_icmp .le 33, 3) := by decide +kernel
theorem dX12_operand_490 : decode cX12_operand 490 = .ok (.iload_n 3, 1) := by decide +kernel
theorem dX12_operand_491 : decode cX12_operand 491 = .ok (.bipush 6, 2) := by decide +kernel
theorem dX12_operand_493 : decode cX12_operand 493 = .ok (.if_icmp .ge 7, 3) := by decide +kernel
theorem dX12_operand_496 : decode cX12_operand 496 = .ok (.iconst 0, 1) := by decide +kernel
theorem dX12_operand_497 : decode cX12_operand 497 = .ok (.goto 14, 3) := by decide +kernel
theorem dX12_operand_500 : decode cX12_operand 500 = .ok (.iload_n 3, 1) := by decide +kernel
theorem dX12_operand_501 : decode cX12_operand 501 = .ok (.bipush 8, 2) := by decide +kernel
theorem dX12_operand_503 : decode cX12_operand 503 = .ok (.if_icmp .ge 7, 3) := by decide +kernel
theorem dX12_operand_506 : decode cX12_operand 506 = .ok (.iconst 1, 1) := by decide +kernel
theorem dX12_operand_507 : decode cX12_operand 507 = .ok (.goto 4, 3) := by decide +kernel
theorem dX12_operand_510 : decode cX12_operand 510 = .ok (.iconst 2, 1) := by decide +kernel
theorem dX12_operand_511 : decode cX12_operand 511 = .ok (.aload_n 0, 1) := by decide +kernel
theorem dX12_operand_512 : decode cX12_operand 512 = .ok (.getfield 75, 3) := by decide +kernel
theorem dX12_operand_515 : decode cX12_operand 515 = .ok (.if_icmp .eq 5, 3) := by decide +kernel
theorem dX12_operand_518 : decode cX12_operand 518 = .ok (.iconst (-1), 1) := by decide +kernel
theorem dX12_operand_519 : decode cX12_operand 519 = .ok (.istore_n 3, 1) := by decide +kernel
theorem dX12_operand_520 : decode cX12_operand 520 = .ok (.iload_n 3, 1) := by decide +kernel
theorem dX12_operand_521 : decode cX12_operand 521 = .ok (.iconst (-1), 1) := by decide +kernel
theorem dX12_operand_522 : decode cX12_operand 522 = .ok (.if_icmp .ne 12, 3) := by decide +kernel
theorem dX12_operand_525 : decode cX12_operand 525 = .ok (.aload_n 0, 1) := by decide +kernel
theorem dX12_operand_526 : decode cX12_operand 526 = .ok (.iconst 1, 1) := by decide +kernel
theorem dX12_operand_527 : decode cX12_operand 527 = .ok (.aload_n 0, 1) := by decide +kernel
theorem dX12_operand_528 : decode cX12_operand 528 = .ok (.getfield 23, 3) := by decide +kernel
theorem dX12_operand_531 : decode cX12_operand 531 = .ok (.invokevirtual 235, 3) := by decide +kernel
theorem dX12_operand_534 : decode cX12_operand 534 = .ok (.aload_n 0, 1) := by decide +kernel
theorem dX12_operand_535 : decode cX12_operand 535 = .ok (.getfield 36, 3) := by decide +kernel
theorem dX12_operand_538 : decode cX12_operand 538 = .ok (.ifCond .le 5, 3) := by decide +kernel
theorem dX12_operand_541 : decode cX12_operand 541 = .ok (.iconst 1, 1) := by decide +kernel
theorem dX12_operand_542 : decode cX12_operand 542 = .ok (.ireturn, 1) := by decide +kernel
theorem dX12_operand_543 : decode cX12_operand 543 = .ok (.aload_n 0, 1) := by decide +kernel
theorem dX12_operand_544 : decode cX12_operand 544 = .ok (.iload_n 3, 1) := by decide +kernel
theorem dX12_operand_545 : decode cX12_operand 545 = .ok (.aload_n 0, 1) := by decide +kernel
theorem dX12_operand_546 : decode cX12_operand 546 = .ok (.getfield 29, 3) := by decide +kernel
theorem dX12_operand_549 : decode cX12_operand 549 = .ok (.invokevirtual 320, 3) := by decide +kernel
theorem dX12_operand_552 : decode cX12_operand 552 = .ok (.aload_n 0, 1) := by decide +kernel
theorem dX12_operand_553 : decode cX12_operand 553 = .ok (.invokevirtual 252, 3) := by decide +kernel
theorem dX12_operand_556 : decode cX12_operand 556 = .ok (.iconst 1, 1) := by decide +kernel
theorem dX12_operand_557 : decode cX12_operand 557 = .ok (.ireturn, 1) := by decide +kernel
abbrev MX12_operand : MI := (RX12, cX12_operand, 4, 4, false)
def bX12_operand : St := (seqS (calS (ckV 12 0) mX12_lex (agC va_rf (lvR 0) agN)) (seqS (ifS (gt0 (getI 12 8 (lvR 0))) (retI (ciI (iI 1)))) (seqS (lsI 1 (subI (getI 12 27 (lvR 0)) (ciI (iI 1)))) (seqS (lsI 2 (iteX (andX (ne0 (calX decI (ckS 1) mX12_isTest (agC Value.int (aldI 2 (getR 12 22 (lvR 0)) (lvI 1)) agN))) (ne0 (aldI 4 (getR 12 24 (lvR 0)) (lvI 1)))) (ciI (iI 1)) (ciI (iI 0)))) (seqS (ifS (andX (ne0 (lvI 2)) (ne0 (calX decI (ckV 12 1) mX12_isWord (agC va_rf (lvR 0) (agC Value.long (clL (lI 7237492)) agN))))) (seqS (ifS (eqI (getI 12 28 (lvR 0)) (ciI (iI 7))) (calS (ckV 12 2) mX12_blame (agC va_rf (lvR 0) (agC Value.int (ciI (iI 5)) (agC Value.int (getI 12 4 (lvR 0)) agN))))) (seqS (ifS (gt0 (getI 12 8 (lvR 0))) (retI (ciI (iI 1)))) (seqS (updI 12 28 (fun x y => x + y) (lvR 0) (ciI (iI 1))) (seqS (calS (ckV 12 1) mX12_holdsBack (agC va_rf (lvR 0) (agC Value.int (ciI (iI 43)) agN))) (seqS (calS (ckV 12 0) mX12_ahead (agC va_rf (lvR 0) agN)) (retI (ciI (iI 0))))))))) (seqS (astZ (getR 12 24 (lvR 0)) (lvI 1) (ciI (iI 0))) (seqS (ifS (andX (ne0 (lvI 2)) (ne0 (calX decI (ckV 12 1) mX12_isSign (agC va_rf (lvR 0) (agC Value.int (ciI (iI 91)) agN))))) (seqS (calS (ckV 12 1) mX12_opens (agC va_rf (lvR 0) (agC Value.int (ciI (iI 5)) agN))) (retI (ciI (iI 0))))) (seqS (ifS (andX (ne0 (lvI 2)) (ne0 (calX decI (ckV 12 1) mX12_isWord (agC va_rf (lvR 0) (agC Value.long (clL (lI 6384748)) agN))))) (seqS (calS (ckV 12 2) mX12_add (agC va_rf (lvR 0) (agC Value.int (ciI (iI 30)) (agC Value.int (ciI (iI 0)) agN)))) (seqS (astI (getR 12 23 (lvR 0)) (lvI 1) (ciI (iI 2))) (seqS (calS (ckV 12 0) mX12_ahead (agC va_rf (lvR 0) agN)) (retI (ciI (iI 1))))))) (seqS (ifS (ne0 (calX decI (ckV 12 1) mX12_isSign (agC va_rf (lvR 0) (agC Value.int (ciI (iI 40)) agN)))) (seqS (calS (ckV 12 1) mX12_opens (agC va_rf (lvR 0) (agC Value.int (ciI (iI 2)) agN))) (retI (ciI (iI 0))))) (seqS (ifS (orX (orX (ne0 (calX decI (ckV 12 1) mX12_isWord (agC va_rf (lvR 0) (agC Value.long (clL (lI 7170414)) agN)))) (ne0 (calX decI (ckV 12 1) mX12_isWord (agC va_rf (lvR 0) (agC Value.long (clL (lI 7168376)) agN))))) (ne0 (calX decI (ckV 12 1) mX12_isWord (agC va_rf (lvR 0) (agC Value.long (clL (lI 26982)) agN))))) (scS 3 (seqS (lsI 3 (iteX (ne0 (calX decI (ckV 12 1) mX12_isWord (agC va_rf (lvR 0) (agC Value.long (clL (lI 7170414)) agN)))) (ciI (iI 36)) (iteX (ne0 (calX decI (ckV 12 1) mX12_isWord (agC va_rf (lvR 0) (agC Value.long (clL (lI 7168376)) agN)))) (ciI (iI 37)) (ciI (iI 44))))) (seqS (calS (ckV 12 0) mX12_ahead (agC va_rf (lvR 0) agN)) (seqS (calS (ckV 12 0) mX12_lex (agC va_rf (lvR 0) agN)) (seqS (ifS (notX (ne0 (calX decI (ckV 12 1) mX12_isSign (agC va_rf (lvR 0) (agC Value.int (ciI (iI 40)) agN))))) (calS (ckV 12 2) mX12_blame (agC va_rf (lvR 0) (agC Value.int (ciI (iI 1)) (agC Value.int (getI 12 4 (lvR 0)) agN))))) (seqS (calS (ckV 12 1) mX12_opens (agC va_rf (lvR 0) (agC Value.int (iteX (eqI (lvI 3) (ciI (iI 44))) (ciI (iI 6)) (ciI (iI 3))) agN))) (seqS (ifS (eq0 (getI 12 8 (lvR 0))) (astI (getR 12 25 (lvR 0)) (subI (getI 12 27 (lvR 0)) (ciI (iI 1))) (lvI 3))) (retI (ciI (iI 0))))))))))) (seqS (lsI 3 (iteX (eqI (getI 12 3 (lvR 0)) (ciI (iI 2))) (ciI (iI 0)) (iteX (ne0 (calX decI (ckV 12 1) mX12_isWord (agC va_rf (lvR 0) (agC Value.long (clL (lI 6578553)) agN)))) (ciI (iI 1)) (iteX (ne0 (calX decI (ckV 12 1) mX12_isWord (agC va_rf (lvR 0) (agC Value.long (clL (lI 119182899770472)) agN)))) (ciI (iI 2)) (iteX (ne0 (calX decI (ckV 12 1) mX12_isWord (agC va_rf (lvR 0) (agC Value.long (clL (lI 7566701)) agN)))) (ciI (iI 3)) (iteX (ne0 (calX decI (ckV 12 1) mX12_isWord (agC va_rf (lvR 0) (agC Value.long (clL (lI 1652126821)) agN)))) (ciI (iI 4)) (iteX (ne0 (calX decI (ckV 12 1) mX12_isWord (agC va_rf (lvR 0) (agC Value.long (clL (lI 121424940196204)) agN)))) (ciI (iI 5)) (iteX (ne0 (calX decI (ckV 12 1) mX12_isWord (agC va_rf (lvR 0) (agC Value.long (clL (lI 482955849332)) agN)))) (ciI (iI 6)) (iteX (ne0 (calX decI (ckV 12 1) mX12_isWord (agC va_rf (lvR 0) (agC Value.long (clL (lI 482854658917)) agN)))) (ciI (iI 7)) (iteX (ne0 (calX decI (ckV 12 1) mX12_isWord (agC va_rf (lvR 0) (agC Value.long (clL (lI 1818850917)) agN)))) (ciI (iI 8)) (iteX (ne0 (calX decI (ckV 12 1) mX12_isWord (agC va_rf (lvR 0) (agC Value.long (clL (lI 1684365668)) agN)))) (ciI (iI 9)) (iteX (ne0 (calX decI (ckV 12 1) mX12_isWord (agC va_rf (lvR 0) (agC Value.long (clL (lI 6383461)) agN)))) (ciI (iI 10)) (ciI (iI (-1))))))))))))))) (seqS (ifS (orX (andX (eqI (lvI 3) (ciI (iI 2))) (eqI (getI 12 21 (lvR 0)) (ciI (iI 2)))) (andX (gtI (lvI 3) (ciI (iI 2))) (neI (iteX (ltI (lvI 3) (ciI (iI 6))) (ciI (iI 0)) (iteX (ltI (lvI 3) (ciI (iI 8))) (ciI (iI 1)) (ciI (iI 2)))) (getI 12 21 (lvR 0))))) (lsI 3 (ciI (iI (-1))))) (seqS (ifS (eqI (lvI 3) (ciI (iI (-1)))) (calS (ckV 12 2) mX12_blame (agC va_rf (lvR 0) (agC Value.int (ciI (iI 1)) (agC Value.int (getI 12 4 (lvR 0)) agN))))) (seqS (ifS (gt0 (getI 12 8 (lvR 0))) (retI (ciI (iI 1)))) (seqS (calS (ckV 12 2) mX12_add (agC va_rf (lvR 0) (agC Value.int (lvI 3) (agC Value.int (getI 12 6 (lvR 0)) agN)))) (seqS (calS (ckV 12 0) mX12_ahead (agC va_rf (lvR 0) agN)) (retI (ciI (iI 1)))))))))))))))))))
theorem jX12_operand : JS MX12_operand 0 0 0 558 [] bX12_operand :=
  (JS.seq (pc1 := 4) (JS.call (pc1 := 1) (JA.r (JX.al (k := 0) rfl dX12_operand_0) JA.nil) aX12_lex (RunK.V (i := 246) (c := 12) (n := 0) cl12 rfl (CN nX12_lex (by decide) (by decide)) gw1573 gw1575 gs61 dX12_operand_1)) (JS.seq (pc1 := 13) (JS.iff (l := 13) (pc1 := 11) (CJ.gt0_f (tgt := 13) (pc1 := 8) (JX.getI (pc1 := 5) (c := 12) (k := 8) (i := 36) (JX.al (k := 0) rfl dX12_operand_4) cl12 (by decide) rfl fk12_36 dX12_operand_5) dX12_operand_8 rfl) (JS.retI (pc1 := 12) (JX.ic (n := 1) rfl dX12_operand_11) dX12_operand_12) (Or.inl rfl)) (JS.seq (pc1 := 20) (JS.is (pc1 := 19) (k := 1) (JX.isub (pc1 := 17) (pc2 := 18) (JX.getI (pc1 := 14) (c := 12) (k := 27) (i := 94) (JX.al (k := 0) rfl dX12_operand_13) cl12 (by decide) rfl fk12_94 dX12_operand_14) (JX.ic (n := 1) rfl dX12_operand_17) dX12_operand_18) rfl (show 1 < 4 by decide) dX12_operand_19) (JS.seq (pc1 := 47) (JS.is (pc1 := 46) (k := 2) (JX.ite (l := 45) (pc1 := 41) (pc2 := 42) (pc3 := 46) (lend := 46) (CJ.and_f (pc1 := 32) (CJ.ne0_f (tgt := 45) (pc1 := 29) (JX.call (pc1 := 26) decI_ok (JA.i (JX.iald (pc1 := 24) (pc2 := 25) (JX.getR (pc1 := 21) (c := 12) (k := 22) (i := 78) (JX.al (k := 0) rfl dX12_operand_20) cl12 (by decide) rfl fk12_78 dX12_operand_21) (JX.il (k := 1) rfl dX12_operand_24) dX12_operand_25) JA.nil) aX12_isTest (RunK.S (i := 326) (n := 1) (CN nX12_isTest (by decide) (by decide)) gw1642 gw1643 dX12_operand_26) (by decide)) dX12_operand_29 rfl) (CJ.ne0_f (tgt := 45) (pc1 := 38) (JX.zald (pc1 := 36) (pc2 := 37) (JX.getR (pc1 := 33) (c := 12) (k := 24) (i := 84) (JX.al (k := 0) rfl dX12_operand_32) cl12 (by decide) rfl fk12_84 dX12_operand_33) (JX.il (k := 1) rfl dX12_operand_36) dX12_operand_37) dX12_operand_38 rfl)) (JX.ic (n := 1) rfl dX12_operand_41) dX12_operand_42 rfl (JX.ic (n := 0) rfl dX12_operand_45) (Or.inl rfl)) rfl (show 2 < 4 by decide) dX12_operand_46) (JS.seq (pc1 := 110) (JS.iff (l := 110) (pc1 := 61) (CJ.and_f (pc1 := 51) (CJ.ne0_f (tgt := 110) (pc1 := 48) (JX.il (k := 2) rfl dX12_operand_47) dX12_operand_48 rfl) (CJ.ne0_f (tgt := 110) (pc1 := 58) (JX.call (pc1 := 55) decI_ok (JA.r (JX.al (k := 0) rfl dX12_operand_51) (JA.l (JX.ld2K (i := 305) (by decide) gw1645 dX12_operand_52) JA.nil)) aX12_isWord (RunK.V (i := 329) (c := 12) (n := 1) cl12 rfl (CN nX12_isWord (by decide) (by decide)) gw1581 gw1583 gs63 dX12_operand_55) (by decide)) dX12_operand_58 rfl)) (JS.seq (pc1 := 79) (JS.iff (l := 79) (pc1 := 70) (CJ.eq_f (tgt := 79) (pc1 := 65) (pc2 := 67) (JX.getI (pc1 := 62) (c := 12) (k := 28) (i := 97) (JX.al (k := 0) rfl dX12_operand_61) cl12 (by decide) rfl fk12_97 dX12_operand_62) (JX.bp (n := 7) kb7 dX12_operand_65) dX12_operand_67 rfl) (JS.call (pc1 := 76) (JA.r (JX.al (k := 0) rfl dX12_operand_70) (JA.i (JX.ic (n := 5) rfl dX12_operand_71) (JA.i (JX.getI (pc1 := 73) (c := 12) (k := 4) (i := 23) (JX.al (k := 0) rfl dX12_operand_72) cl12 (by decide) rfl fk12_23 dX12_operand_73) JA.nil))) aX12_blame (RunK.V (i := 235) (c := 12) (n := 2) cl12 rfl (CN nX12_blame (by decide) (by decide)) gw1577 gw1579 gs62 dX12_operand_76)) (Or.inl rfl)) (JS.seq (pc1 := 88) (JS.iff (l := 88) (pc1 := 86) (CJ.gt0_f (tgt := 88) (pc1 := 83) (JX.getI (pc1 := 80) (c := 12) (k := 8) (i := 36) (JX.al (k := 0) rfl dX12_operand_79) cl12 (by decide) rfl fk12_36 dX12_operand_80) dX12_operand_83 rfl) (JS.retI (pc1 := 87) (JX.ic (n := 1) rfl dX12_operand_86) dX12_operand_87) (Or.inl rfl)) (JS.seq (pc1 := 98) (JS.upA (pc1 := 89) (pc2 := 94) (c := 12) (k := 28) (i := 97) (JX.al (k := 0) rfl dX12_operand_88) dX12_operand_89 cl12 (by decide) rfl fk12_97 (Or.inl rfl) dX12_operand_90 (JX.ic (n := 1) rfl dX12_operand_93) dX12_operand_94 dX12_operand_95) (JS.seq (pc1 := 104) (JS.call (pc1 := 101) (JA.r (JX.al (k := 0) rfl dX12_operand_98) (JA.i (JX.bp (n := 43) kb43 dX12_operand_99) JA.nil)) aX12_holdsBack (RunK.V (i := 333) (c := 12) (n := 1) cl12 rfl (CN nX12_holdsBack (by decide) (by decide)) gw1646 gw1648 gs75 dX12_operand_101)) (JS.seq (pc1 := 108) (JS.call (pc1 := 105) (JA.r (JX.al (k := 0) rfl dX12_operand_104) JA.nil) aX12_ahead (RunK.V (i := 252) (c := 12) (n := 0) cl12 rfl (CN nX12_ahead (by decide) (by decide)) gw1554 gw1556 gs58 dX12_operand_105)) (JS.retI (pc1 := 109) (JX.ic (n := 0) rfl dX12_operand_108) dX12_operand_109)))))) (Or.inl rfl)) (JS.seq (pc1 := 117) (JS.za (pc1 := 114) (pc2 := 115) (pc3 := 116) (JX.getR (pc1 := 111) (c := 12) (k := 24) (i := 84) (JX.al (k := 0) rfl dX12_operand_110) cl12 (by decide) rfl fk12_84 dX12_operand_111) (JX.il (k := 1) rfl dX12_operand_114) (JX.ic (n := 0) rfl dX12_operand_115) dX12_operand_116) (JS.seq (pc1 := 137) (JS.iff (l := 137) (pc1 := 130) (CJ.and_f (pc1 := 121) (CJ.ne0_f (tgt := 137) (pc1 := 118) (JX.il (k := 2) rfl dX12_operand_117) dX12_operand_118 rfl) (CJ.ne0_f (tgt := 137) (pc1 := 127) (JX.call (pc1 := 124) decI_ok (JA.r (JX.al (k := 0) rfl dX12_operand_121) (JA.i (JX.bp (n := 91) kb91 dX12_operand_122) JA.nil)) aX12_isSign (RunK.V (i := 249) (c := 12) (n := 1) cl12 rfl (CN nX12_isSign (by decide) (by decide)) gw1596 gw1598 gs66 dX12_operand_124) (by decide)) dX12_operand_127 rfl)) (JS.seq (pc1 := 135) (JS.call (pc1 := 132) (JA.r (JX.al (k := 0) rfl dX12_operand_130) (JA.i (JX.ic (n := 5) rfl dX12_operand_131) JA.nil)) aX12_opens (RunK.V (i := 336) (c := 12) (n := 1) cl12 rfl (CN nX12_opens (by decide) (by decide)) gw1650 gw1652 gs76 dX12_operand_132)) (JS.retI (pc1 := 136) (JX.ic (n := 0) rfl dX12_operand_135) dX12_operand_136)) (Or.inl rfl)) (JS.seq (pc1 := 171) (JS.iff (l := 171) (pc1 := 151) (CJ.and_f (pc1 := 141) (CJ.ne0_f (tgt := 171) (pc1 := 138) (JX.il (k := 2) rfl dX12_operand_137) dX12_operand_138 rfl) (CJ.ne0_f (tgt := 171) (pc1 := 148) (JX.call (pc1 := 145) decI_ok (JA.r (JX.al (k := 0) rfl dX12_operand_141) (JA.l (JX.ld2K (i := 307) (by decide) gw1654 dX12_operand_142) JA.nil)) aX12_isWord (RunK.V (i := 329) (c := 12) (n := 1) cl12 rfl (CN nX12_isWord (by decide) (by decide)) gw1581 gw1583 gs63 dX12_operand_145) (by decide)) dX12_operand_148 rfl)) (JS.seq (pc1 := 158) (JS.call (pc1 := 155) (JA.r (JX.al (k := 0) rfl dX12_operand_151) (JA.i (JX.bp (n := 30) kb30 dX12_operand_152) (JA.i (JX.ic (n := 0) rfl dX12_operand_154) JA.nil))) aX12_add (RunK.V (i := 320) (c := 12) (n := 2) cl12 rfl (CN nX12_add (by decide) (by decide)) gw1655 gw1657 gs77 dX12_operand_155)) (JS.seq (pc1 := 165) (JS.ia (pc1 := 162) (pc2 := 163) (pc3 := 164) (JX.getR (pc1 := 159) (c := 12) (k := 23) (i := 81) (JX.al (k := 0) rfl dX12_operand_158) cl12 (by decide) rfl fk12_81 dX12_operand_159) (JX.il (k := 1) rfl dX12_operand_162) (JX.ic (n := 2) rfl dX12_operand_163) dX12_operand_164) (JS.seq (pc1 := 169) (JS.call (pc1 := 166) (JA.r (JX.al (k := 0) rfl dX12_operand_165) JA.nil) aX12_ahead (RunK.V (i := 252) (c := 12) (n := 0) cl12 rfl (CN nX12_ahead (by decide) (by decide)) gw1554 gw1556 gs58 dX12_operand_166)) (JS.retI (pc1 := 170) (JX.ic (n := 1) rfl dX12_operand_169) dX12_operand_170)))) (Or.inl rfl)) (JS.seq (pc1 := 187) (JS.iff (l := 187) (pc1 := 180) (CJ.ne0_f (tgt := 187) (pc1 := 177) (JX.call (pc1 := 174) decI_ok (JA.r (JX.al (k := 0) rfl dX12_operand_171) (JA.i (JX.bp (n := 40) kb40 dX12_operand_172) JA.nil)) aX12_isSign (RunK.V (i := 249) (c := 12) (n := 1) cl12 rfl (CN nX12_isSign (by decide) (by decide)) gw1596 gw1598 gs66 dX12_operand_174) (by decide)) dX12_operand_177 rfl) (JS.seq (pc1 := 185) (JS.call (pc1 := 182) (JA.r (JX.al (k := 0) rfl dX12_operand_180) (JA.i (JX.ic (n := 2) rfl dX12_operand_181) JA.nil)) aX12_opens (RunK.V (i := 336) (c := 12) (n := 1) cl12 rfl (CN nX12_opens (by decide) (by decide)) gw1650 gw1652 gs76 dX12_operand_182)) (JS.retI (pc1 := 186) (JX.ic (n := 0) rfl dX12_operand_185) dX12_operand_186)) (Or.inl rfl)) (JS.seq (pc1 := 313) (JS.iff (l := 313) (pc1 := 217) (CJ.or_f (l := 217) (pc1 := 207) (CJ.or_t (pc1 := 197) (CJ.ne0_t (tgt := 217) (pc1 := 194) (JX.call (pc1 := 191) decI_ok (JA.r (JX.al (k := 0) rfl dX12_operand_187) (JA.l (JX.ld2K (i := 309) (by decide) gw1659 dX12_operand_188) JA.nil)) aX12_isWord (RunK.V (i := 329) (c := 12) (n := 1) cl12 rfl (CN nX12_isWord (by decide) (by decide)) gw1581 gw1583 gs63 dX12_operand_191) (by decide)) dX12_operand_194 rfl) (CJ.ne0_t (tgt := 217) (pc1 := 204) (JX.call (pc1 := 201) decI_ok (JA.r (JX.al (k := 0) rfl dX12_operand_197) (JA.l (JX.ld2K (i := 311) (by decide) gw1660 dX12_operand_198) JA.nil)) aX12_isWord (RunK.V (i := 329) (c := 12) (n := 1) cl12 rfl (CN nX12_isWord (by decide) (by decide)) gw1581 gw1583 gs63 dX12_operand_201) (by decide)) dX12_operand_204 rfl)) (CJ.ne0_f (tgt := 313) (pc1 := 214) (JX.call (pc1 := 211) decI_ok (JA.r (JX.al (k := 0) rfl dX12_operand_207) (JA.l (JX.ld2K (i := 299) (by decide) gw1661 dX12_operand_208) JA.nil)) aX12_isWord (RunK.V (i := 329) (c := 12) (n := 1) cl12 rfl (CN nX12_isWord (by decide) (by decide)) gw1581 gw1583 gs63 dX12_operand_211) (by decide)) dX12_operand_214 rfl) (Or.inl rfl)) (JS.sc (JS.seq (pc1 := 250) (JS.is (pc1 := 249) (k := 3) (JX.ite (l := 232) (pc1 := 227) (pc2 := 229) (pc3 := 249) (lend := 249) (CJ.ne0_f (tgt := 232) (pc1 := 224) (JX.call (pc1 := 221) decI_ok (JA.r (JX.al (k := 0) rfl dX12_operand_217) (JA.l (JX.ld2K (i := 309) (by decide) gw1659 dX12_operand_218) JA.nil)) aX12_isWord (RunK.V (i := 329) (c := 12) (n := 1) cl12 rfl (CN nX12_isWord (by decide) (by decide)) gw1581 gw1583 gs63 dX12_operand_221) (by decide)) dX12_operand_224 rfl) (JX.bp (n := 36) kb36 dX12_operand_227) dX12_operand_229 rfl (JX.ite (l := 247) (pc1 := 242) (pc2 := 244) (pc3 := 249) (lend := 249) (CJ.ne0_f (tgt := 247) (pc1 := 239) (JX.call (pc1 := 236) decI_ok (JA.r (JX.al (k := 0) rfl dX12_operand_232) (JA.l (JX.ld2K (i := 311) (by decide) gw1660 dX12_operand_233) JA.nil)) aX12_isWord (RunK.V (i := 329) (c := 12) (n := 1) cl12 rfl (CN nX12_isWord (by decide) (by decide)) gw1581 gw1583 gs63 dX12_operand_236) (by decide)) dX12_operand_239 rfl) (JX.bp (n := 37) kb37 dX12_operand_242) dX12_operand_244 rfl (JX.bp (n := 44) kb44 dX12_operand_247) (Or.inl rfl)) (Or.inl rfl)) rfl (show 3 < 4 by decide) dX12_operand_249) (JS.seq (pc1 := 254) (JS.call (pc1 := 251) (JA.r (JX.al (k := 0) rfl dX12_operand_250) JA.nil) aX12_ahead (RunK.V (i := 252) (c := 12) (n := 0) cl12 rfl (CN nX12_ahead (by decide) (by decide)) gw1554 gw1556 gs58 dX12_operand_251)) (JS.seq (pc1 := 258) (JS.call (pc1 := 255) (JA.r (JX.al (k := 0) rfl dX12_operand_254) JA.nil) aX12_lex (RunK.V (i := 246) (c := 12) (n := 0) cl12 rfl (CN nX12_lex (by decide) (by decide)) gw1573 gw1575 gs61 dX12_operand_255)) (JS.seq (pc1 := 276) (JS.iff (l := 276) (pc1 := 267) (CJ.not_f (CJ.ne0_t (tgt := 276) (pc1 := 264) (JX.call (pc1 := 261) decI_ok (JA.r (JX.al (k := 0) rfl dX12_operand_258) (JA.i (JX.bp (n := 40) kb40 dX12_operand_259) JA.nil)) aX12_isSign (RunK.V (i := 249) (c := 12) (n := 1) cl12 rfl (CN nX12_isSign (by decide) (by decide)) gw1596 gw1598 gs66 dX12_operand_261) (by decide)) dX12_operand_264 rfl)) (JS.call (pc1 := 273) (JA.r (JX.al (k := 0) rfl dX12_operand_267) (JA.i (JX.ic (n := 1) rfl dX12_operand_268) (JA.i (JX.getI (pc1 := 270) (c := 12) (k := 4) (i := 23) (JX.al (k := 0) rfl dX12_operand_269) cl12 (by decide) rfl fk12_23 dX12_operand_270) JA.nil))) aX12_blame (RunK.V (i := 235) (c := 12) (n := 2) cl12 rfl (CN nX12_blame (by decide) (by decide)) gw1577 gw1579 gs62 dX12_operand_273)) (Or.inl rfl)) (JS.seq (pc1 := 292) (JS.call (pc1 := 289) (JA.r (JX.al (k := 0) rfl dX12_operand_276) (JA.i (JX.ite (l := 288) (pc1 := 283) (pc2 := 285) (pc3 := 289) (lend := 289) (CJ.eq_f (tgt := 288) (pc1 := 278) (pc2 := 280) (JX.il (k := 3) rfl dX12_operand_277) (JX.bp (n := 44) kb44 dX12_operand_278) dX12_operand_280 rfl) (JX.bp (n := 6) kb6 dX12_operand_283) dX12_operand_285 rfl (JX.ic (n := 3) rfl dX12_operand_288) (Or.inl rfl)) JA.nil)) aX12_opens (RunK.V (i := 336) (c := 12) (n := 1) cl12 rfl (CN nX12_opens (by decide) (by decide)) gw1650 gw1652 gs76 dX12_operand_289)) (JS.seq (pc1 := 311) (JS.iff (l := 311) (pc1 := 299) (CJ.eq0_f (tgt := 311) (pc1 := 296) (JX.getI (pc1 := 293) (c := 12) (k := 8) (i := 36) (JX.al (k := 0) rfl dX12_operand_292) cl12 (by decide) rfl fk12_36 dX12_operand_293) dX12_operand_296 rfl) (JS.ia (pc1 := 303) (pc2 := 309) (pc3 := 310) (JX.getR (pc1 := 300) (c := 12) (k := 25) (i := 88) (JX.al (k := 0) rfl dX12_operand_299) cl12 (by decide) rfl fk12_88 dX12_operand_300) (JX.isub (pc1 := 307) (pc2 := 308) (JX.getI (pc1 := 304) (c := 12) (k := 27) (i := 94) (JX.al (k := 0) rfl dX12_operand_303) cl12 (by decide) rfl fk12_94 dX12_operand_304) (JX.ic (n := 1) rfl dX12_operand_307) dX12_operand_308) (JX.il (k := 3) rfl dX12_operand_309) dX12_operand_310) (Or.inl rfl)) (JS.retI (pc1 := 312) (JX.ic (n := 0) rfl dX12_operand_311) dX12_operand_312)))))))) (Or.inl rfl)) (JS.seq (pc1 := 472) (JS.is (pc1 := 471) (k := 3) (JX.ite (l := 325) (pc1 := 321) (pc2 := 322) (pc3 := 471) (lend := 471) (CJ.eq_f (tgt := 325) (pc1 := 317) (pc2 := 318) (JX.getI (pc1 := 314) (c := 12) (k := 3) (i := 20) (JX.al (k := 0) rfl dX12_operand_313) cl12 (by decide) rfl fk12_20 dX12_operand_314) (JX.ic (n := 2) rfl dX12_operand_317) dX12_operand_318 rfl) (JX.ic (n := 0) rfl dX12_operand_321) dX12_operand_322 rfl (JX.ite (l := 339) (pc1 := 335) (pc2 := 336) (pc3 := 471) (lend := 471) (CJ.ne0_f (tgt := 339) (pc1 := 332) (JX.call (pc1 := 329) decI_ok (JA.r (JX.al (k := 0) rfl dX12_operand_325) (JA.l (JX.ld2K (i := 281) (by decide) gw1662 dX12_operand_326) JA.nil)) aX12_isWord (RunK.V (i := 329) (c := 12) (n := 1) cl12 rfl (CN nX12_isWord (by decide) (by decide)) gw1581 gw1583 gs63 dX12_operand_329) (by decide)) dX12_operand_332 rfl) (JX.ic (n := 1) rfl dX12_operand_335) dX12_operand_336 rfl (JX.ite (l := 353) (pc1 := 349) (pc2 := 350) (pc3 := 471) (lend := 471) (CJ.ne0_f (tgt := 353) (pc1 := 346) (JX.call (pc1 := 343) decI_ok (JA.r (JX.al (k := 0) rfl dX12_operand_339) (JA.l (JX.ld2K (i := 285) (by decide) gw1663 dX12_operand_340) JA.nil)) aX12_isWord (RunK.V (i := 329) (c := 12) (n := 1) cl12 rfl (CN nX12_isWord (by decide) (by decide)) gw1581 gw1583 gs63 dX12_operand_343) (by decide)) dX12_operand_346 rfl) (JX.ic (n := 2) rfl dX12_operand_349) dX12_operand_350 rfl (JX.ite (l := 367) (pc1 := 363) (pc2 := 364) (pc3 := 471) (lend := 471) (CJ.ne0_f (tgt := 367) (pc1 := 360) (JX.call (pc1 := 357) decI_ok (JA.r (JX.al (k := 0) rfl dX12_operand_353) (JA.l (JX.ld2K (i := 283) (by decide) gw1664 dX12_operand_354) JA.nil)) aX12_isWord (RunK.V (i := 329) (c := 12) (n := 1) cl12 rfl (CN nX12_isWord (by decide) (by decide)) gw1581 gw1583 gs63 dX12_operand_357) (by decide)) dX12_operand_360 rfl) (JX.ic (n := 3) rfl dX12_operand_363) dX12_operand_364 rfl (JX.ite (l := 381) (pc1 := 377) (pc2 := 378) (pc3 := 471) (lend := 471) (CJ.ne0_f (tgt := 381) (pc1 := 374) (JX.call (pc1 := 371) decI_ok (JA.r (JX.al (k := 0) rfl dX12_operand_367) (JA.l (JX.ld2K (i := 287) (by decide) gw1665 dX12_operand_368) JA.nil)) aX12_isWord (RunK.V (i := 329) (c := 12) (n := 1) cl12 rfl (CN nX12_isWord (by decide) (by decide)) gw1581 gw1583 gs63 dX12_operand_371) (by decide)) dX12_operand_374 rfl) (JX.ic (n := 4) rfl dX12_operand_377) dX12_operand_378 rfl (JX.ite (l := 395) (pc1 := 391) (pc2 := 392) (pc3 := 471) (lend := 471) (CJ.ne0_f (tgt := 395) (pc1 := 388) (JX.call (pc1 := 385) decI_ok (JA.r (JX.al (k := 0) rfl dX12_operand_381) (JA.l (JX.ld2K (i := 261) (by decide) gw1618 dX12_operand_382) JA.nil)) aX12_isWord (RunK.V (i := 329) (c := 12) (n := 1) cl12 rfl (CN nX12_isWord (by decide) (by decide)) gw1581 gw1583 gs63 dX12_operand_385) (by decide)) dX12_operand_388 rfl) (JX.ic (n := 5) rfl dX12_operand_391) dX12_operand_392 rfl (JX.ite (l := 410) (pc1 := 405) (pc2 := 407) (pc3 := 471) (lend := 471) (CJ.ne0_f (tgt := 410) (pc1 := 402) (JX.call (pc1 := 399) decI_ok (JA.r (JX.al (k := 0) rfl dX12_operand_395) (JA.l (JX.ld2K (i := 289) (by decide) gw1666 dX12_operand_396) JA.nil)) aX12_isWord (RunK.V (i := 329) (c := 12) (n := 1) cl12 rfl (CN nX12_isWord (by decide) (by decide)) gw1581 gw1583 gs63 dX12_operand_399) (by decide)) dX12_operand_402 rfl) (JX.bp (n := 6) kb6 dX12_operand_405) dX12_operand_407 rfl (JX.ite (l := 425) (pc1 := 420) (pc2 := 422) (pc3 := 471) (lend := 471) (CJ.ne0_f (tgt := 425) (pc1 := 417) (JX.call (pc1 := 414) decI_ok (JA.r (JX.al (k := 0) rfl dX12_operand_410) (JA.l (JX.ld2K (i := 291) (by decide) gw1667 dX12_operand_411) JA.nil)) aX12_isWord (RunK.V (i := 329) (c := 12) (n := 1) cl12 rfl (CN nX12_isWord (by decide) (by decide)) gw1581 gw1583 gs63 dX12_operand_414) (by decide)) dX12_operand_417 rfl) (JX.bp (n := 7) kb7 dX12_operand_420) dX12_operand_422 rfl (JX.ite (l := 440) (pc1 := 435) (pc2 := 437) (pc3 := 471) (lend := 471) (CJ.ne0_f (tgt := 440) (pc1 := 432) (JX.call (pc1 := 429) decI_ok (JA.r (JX.al (k := 0) rfl dX12_operand_425) (JA.l (JX.ld2K (i := 293) (by decide) gw1668 dX12_operand_426) JA.nil)) aX12_isWord (RunK.V (i := 329) (c := 12) (n := 1) cl12 rfl (CN nX12_isWord (by decide) (by decide)) gw1581 gw1583 gs63 dX12_operand_429) (by decide)) dX12_operand_432 rfl) (JX.bp (n := 8) kb8 dX12_operand_435) dX12_operand_437 rfl (JX.ite (l := 455) (pc1 := 450) (pc2 := 452) (pc3 := 471) (lend := 471) (CJ.ne0_f (tgt := 455) (pc1 := 447) (JX.call (pc1 := 444) decI_ok (JA.r (JX.al (k := 0) rfl dX12_operand_440) (JA.l (JX.ld2K (i := 295) (by decide) gw1669 dX12_operand_441) JA.nil)) aX12_isWord (RunK.V (i := 329) (c := 12) (n := 1) cl12 rfl (CN nX12_isWord (by decide) (by decide)) gw1581 gw1583 gs63 dX12_operand_444) (by decide)) dX12_operand_447 rfl) (JX.bp (n := 9) kb9 dX12_operand_450) dX12_operand_452 rfl (JX.ite (l := 470) (pc1 := 465) (pc2 := 467) (pc3 := 471) (lend := 471) (CJ.ne0_f (tgt := 470) (pc1 := 462) (JX.call (pc1 := 459) decI_ok (JA.r (JX.al (k := 0) rfl dX12_operand_455) (JA.l (JX.ld2K (i := 297) (by decide) gw1670 dX12_operand_456) JA.nil)) aX12_isWord (RunK.V (i := 329) (c := 12) (n := 1) cl12 rfl (CN nX12_isWord (by decide) (by decide)) gw1581 gw1583 gs63 dX12_operand_459) (by decide)) dX12_operand_462 rfl) (JX.bp (n := 10) kb10 dX12_operand_465) dX12_operand_467 rfl (JX.ic (n := (-1)) rfl dX12_operand_470) (Or.inl rfl)) (Or.inl rfl)) (Or.inl rfl)) (Or.inl rfl)) (Or.inl rfl)) (Or.inl rfl)) (Or.inl rfl)) (Or.inl rfl)) (Or.inl rfl)) (Or.inl rfl)) (Or.inl rfl)) rfl (show 3 < 4 by decide) dX12_operand_471) (JS.seq (pc1 := 520) (JS.iff (l := 520) (pc1 := 518) (CJ.or_f (l := 518) (pc1 := 485) (CJ.and_t (l := 485) (pc1 := 477) (CJ.eq_f (tgt := 485) (pc1 := 473) (pc2 := 474) (JX.il (k := 3) rfl dX12_operand_472) (JX.ic (n := 2) rfl dX12_operand_473) dX12_operand_474 rfl) (CJ.eq_t (tgt := 518) (pc1 := 481) (pc2 := 482) (JX.getI (pc1 := 478) (c := 12) (k := 21) (i := 75) (JX.al (k := 0) rfl dX12_operand_477) cl12 (by decide) rfl fk12_75 dX12_operand_478) (JX.ic (n := 2) rfl dX12_operand_481) dX12_operand_482 rfl) (Or.inl rfl)) (CJ.and_f (pc1 := 490) (CJ.gt_f (tgt := 520) (pc1 := 486) (pc2 := 487) (JX.il (k := 3) rfl dX12_operand_485) (JX.ic (n := 2) rfl dX12_operand_486) dX12_operand_487 rfl) (CJ.ne_f (tgt := 520) (pc1 := 511) (pc2 := 515) (JX.ite (l := 500) (pc1 := 496) (pc2 := 497) (pc3 := 511) (lend := 511) (CJ.lt_f (tgt := 500) (pc1 := 491) (pc2 := 493) (JX.il (k := 3) rfl dX12_operand_490) (JX.bp (n := 6) kb6 dX12_operand_491) dX12_operand_493 rfl) (JX.ic (n := 0) rfl dX12_operand_496) dX12_operand_497 rfl (JX.ite (l := 510) (pc1 := 506) (pc2 := 507) (pc3 := 511) (lend := 511) (CJ.lt_f (tgt := 510) (pc1 := 501) (pc2 := 503) (JX.il (k := 3) rfl dX12_operand_500) (JX.bp (n := 8) kb8 dX12_operand_501) dX12_operand_503 rfl) (JX.ic (n := 1) rfl dX12_operand_506) dX12_operand_507 rfl (JX.ic (n := 2) rfl dX12_operand_510) (Or.inl rfl)) (Or.inl rfl)) (JX.getI (pc1 := 512) (c := 12) (k := 21) (i := 75) (JX.al (k := 0) rfl dX12_operand_511) cl12 (by decide) rfl fk12_75 dX12_operand_512) dX12_operand_515 rfl)) (Or.inl rfl)) (JS.is (pc1 := 519) (k := 3) (JX.ic (n := (-1)) rfl dX12_operand_518) rfl (show 3 < 4 by decide) dX12_operand_519) (Or.inl rfl)) (JS.seq (pc1 := 534) (JS.iff (l := 534) (pc1 := 525) (CJ.eq_f (tgt := 534) (pc1 := 521) (pc2 := 522) (JX.il (k := 3) rfl dX12_operand_520) (JX.ic (n := (-1)) rfl dX12_operand_521) dX12_operand_522 rfl) (JS.call (pc1 := 531) (JA.r (JX.al (k := 0) rfl dX12_operand_525) (JA.i (JX.ic (n := 1) rfl dX12_operand_526) (JA.i (JX.getI (pc1 := 528) (c := 12) (k := 4) (i := 23) (JX.al (k := 0) rfl dX12_operand_527) cl12 (by decide) rfl fk12_23 dX12_operand_528) JA.nil))) aX12_blame (RunK.V (i := 235) (c := 12) (n := 2) cl12 rfl (CN nX12_blame (by decide) (by decide)) gw1577 gw1579 gs62 dX12_operand_531)) (Or.inl rfl)) (JS.seq (pc1 := 543) (JS.iff (l := 543) (pc1 := 541) (CJ.gt0_f (tgt := 543) (pc1 := 538) (JX.getI (pc1 := 535) (c := 12) (k := 8) (i := 36) (JX.al (k := 0) rfl dX12_operand_534) cl12 (by decide) rfl fk12_36 dX12_operand_535) dX12_operand_538 rfl) (JS.retI (pc1 := 542) (JX.ic (n := 1) rfl dX12_operand_541) dX12_operand_542) (Or.inl rfl)) (JS.seq (pc1 := 552) (JS.call (pc1 := 549) (JA.r (JX.al (k := 0) rfl dX12_operand_543) (JA.i (JX.il (k := 3) rfl dX12_operand_544) (JA.i (JX.getI (pc1 := 546) (c := 12) (k := 6) (i := 29) (JX.al (k := 0) rfl dX12_operand_545) cl12 (by decide) rfl fk12_29 dX12_operand_546) JA.nil))) aX12_add (RunK.V (i := 320) (c := 12) (n := 2) cl12 rfl (CN nX12_add (by decide) (by decide)) gw1655 gw1657 gs77 dX12_operand_549)) (JS.seq (pc1 := 556) (JS.call (pc1 := 553) (JA.r (JX.al (k := 0) rfl dX12_operand_552) JA.nil) aX12_ahead (RunK.V (i := 252) (c := 12) (n := 0) cl12 rfl (CN nX12_ahead (by decide) (by decide)) gw1554 gw1556 gs58 dX12_operand_553)) (JS.retI (pc1 := 557) (JX.ic (n := 1) rfl dX12_operand_556) dX12_operand_557)))))))))))))))))
def mX12_operand : MS := runM 4 (some (.boolean)) bX12_operand
theorem aX12_operand : MA yX12_operand cX12_operand 4 (some (.boolean)) 4 mX12_operand := MA.of (plainFor_of_name (by decide)) jX12_operand
theorem eX12_operand (a0 : Nat) (h : AH) : mX12_operand [.ref a0] h = (bX12_operand [.val (.ref a0), .unset, .unset, .unset] h).bind (finM (some (.boolean))) := rfl
/-! PieceStoreModel.goesOn -/
theorem dX12_goesOn_0 : decode cX12_goesOn 0 = .ok (.aload_n 0, 1) := by decide +kernel
theorem dX12_goesOn_1 : decode cX12_goesOn 1 = .ok (.invokevirtual 246, 3) := by decide +kernel
theorem dX12_goesOn_4 : decode cX12_goesOn 4 = .ok (.aload_n 0, 1) := by decide +kernel
theorem dX12_goesOn_5 : decode cX12_goesOn 5 = .ok (.getfield 36, 3) := by decide +kernel
theorem dX12_goesOn_8 : decode cX12_goesOn 8 = .ok (.ifCond .le 5, 3) := by decide +kernel
theorem dX12_goesOn_11 : decode cX12_goesOn 11 = .ok (.iconst 0, 1) := by decide +kernel
theorem dX12_goesOn_12 : decode cX12_goesOn 12 = .ok (.ireturn, 1) := by decide +kernel
theorem dX12_goesOn_13 : decode cX12_goesOn 13 = .ok (.aload_n 0, 1) := by decide +kernel
theorem dX12_goesOn_14 : decode cX12_goesOn 14 = .ok (.getfield 94, 3) := by decide +kernel
theorem dX12_goesOn_17 : decode cX12_goesOn 17 = .ok (.iconst 1, 1) := by decide +kernel
theorem dX12_goesOn_18 : decode cX12_goesOn 18 = .ok (.isub, 1) := by decide +kernel
theorem dX12_goesOn_19 : decode cX12_goesOn 19 = .ok (.istore_n 1, 1) := by decide +kernel
theorem dX12_goesOn_20 : decode cX12_goesOn 20 = .ok (.aload_n 0, 1) := by decide +kernel
theorem dX12_goesOn_21 : decode cX12_goesOn 21 = .ok (.getfield 78, 3) := by decide +kernel
theorem dX12_goesOn_24 : decode cX12_goesOn 24 = .ok (.iload_n 1, 1) := by decide +kernel
theorem dX12_goesOn_25 : decode cX12_goesOn 25 = .ok (.iaload, 1) := by decide +kernel
theorem dX12_goesOn_26 : decode cX12_goesOn 26 = .ok (.istore_n 2, 1) := by decide +kernel
theorem dX12_goesOn_27 : decode cX12_goesOn 27 = .ok (.iload_n 2, 1) := by decide +kernel
theorem dX12_goesOn_28 : decode cX12_goesOn 28 = .ok (.invokestatic 326, 3) := by decide +kernel
theorem dX12_goesOn_31 : decode cX12_goesOn 31 = .ok (.istore_n 3, 1) := by decide +kernel
theorem dX12_goesOn_32 : decode cX12_goesOn 32 = .ok (.aload_n 0, 1) := by decide +kernel
theorem dX12_goesOn_33 : decode cX12_goesOn 33 = .ok (.getfield 81, 3) := by decide +kernel
theorem dX12_goesOn_36 : decode cX12_goesOn 36 = .ok (.iload_n 1, 1) := by decide +kernel
theorem dX12_goesOn_37 : decode cX12_goesOn 37 = .ok (.iaload, 1) := by decide +kernel
theorem dX12_goesOn_38 : decode cX12_goesOn 38 = .ok (.iconst 2, 1) := by decide +kernel
theorem dX12_goesOn_39 : decode cX12_goesOn 39 = .ok (.if_icmp .ge 149, 3) := by decide +kernel
theorem dX12_goesOn_42 : decode cX12_goesOn 42 = .ok (.aload_n 0, 1) := by decide +kernel
theorem dX12_goesOn_43 : decode cX12_goesOn 43 = .ok (.bipush 43, 2) := by decide +kernel
theorem dX12_goesOn_45 : decode cX12_goesOn 45 = .ok (.invokevirtual 249, 3) := by decide +kernel
theorem dX12_goesOn_48 : decode cX12_goesOn 48 = .ok (.ifCond .ne 39, 3) := by decide +kernel
theorem dX12_goesOn_51 : decode cX12_goesOn 51 = .ok (.aload_n 0, 1) := by decide +kernel
theorem dX12_goesOn_52 : decode cX12_goesOn 52 = .ok (.bipush 45, 2) := by decide +kernel
theorem dX12_goesOn_54 : decode cX12_goesOn 54 = .ok (.invokevirtual 249, 3) := by decide +kernel
theorem dX12_goesOn_57 : decode cX12_goesOn 57 = .ok (.ifCond .ne 30, 3) := by decide +kernel
theorem dX12_goesOn_60 : decode cX12_goesOn 60 = .ok (.aload_n 0, 1) := by decide +kernel
theorem dX12_goesOn_61 : decode cX12_goesOn 61 = .ok (.bipush 42, 2) := by decide +kernel
theorem dX12_goesOn_63 : decode cX12_goesOn 63 = .ok (.invokevirtual 249, 3) := by decide +kernel
theorem dX12_goesOn_66 : decode cX12_goesOn 66 = .ok (.ifCond .ne 21, 3) := by decide +kernel
theorem dX12_goesOn_69 : decode cX12_goesOn 69 = .ok (.aload_n 0, 1) := by decide +kernel
theorem dX12_goesOn_70 : decode cX12_goesOn 70 = .ok (.bipush 47, 2) := by decide +kernel
theorem dX12_goesOn_72 : decode cX12_goesOn 72 = .ok (.invokevirtual 249, 3) := by decide +kernel
theorem dX12_goesOn_75 : decode cX12_goesOn 75 = .ok (.ifCond .ne 12, 3) := by decide +kernel
theorem dX12_goesOn_78 : decode cX12_goesOn 78 = .ok (.aload_n 0, 1) := by decide +kernel
theorem dX12_goesOn_79 : decode cX12_goesOn 79 = .ok (.bipush 37, 2) := by decide +kernel
theorem dX12_goesOn_81 : decode cX12_goesOn 81 = .ok (.invokevirtual 249, 3) := by decide +kernel
theorem dX12_goesOn_84 : decode cX12_goesOn 84 = .ok (.ifCond .eq 104, 3) := by decide +kernel
theorem dX12_goesOn_87 : decode cX12_goesOn 87 = .ok (.aload_n 0, 1) := by decide +kernel
theorem dX12_goesOn_88 : decode cX12_goesOn 88 = .ok (.aload_n 0, 1) := by decide +kernel
theorem dX12_goesOn_89 : decode cX12_goesOn 89 = .ok (.bipush 43, 2) := by decide +kernel
theorem dX12_goesOn_91 : decode cX12_goesOn 91 = .ok (.invokevirtual 249, 3) := by decide +kernel
theorem dX12_goesOn_94 : decode cX12_goesOn 94 = .ok (.ifCond .ne 12, 3) := by decide +kernel
theorem dX12_goesOn_97 : decode cX12_goesOn 97 = .ok (.aload_n 0, 1) := by decide +kernel
theorem dX12_goesOn_98 : decode cX12_goesOn 98 = .ok (.bipush 45, 2) := by decide +kernel
theorem dX12_goesOn_100 : decode cX12_goesOn 100 = .ok (.invokevirtual 249, 3) := by decide +kernel
theorem dX12_goesOn_103 : decode cX12_goesOn 103 = .ok (.ifCond .eq 7, 3) := by decide +kernel
theorem dX12_goesOn_106 : decode cX12_goesOn 106 = .ok (.iconst 5, 1) := by decide +kernel
theorem dX12_goesOn_107 : decode cX12_goesOn 107 = .ok (.goto 5, 3) := by decide +kernel
theorem dX12_goesOn_110 : decode cX12_goesOn 110 = .ok (.bipush 6, 2) := by decide +kernel
theorem dX12_goesOn_112 : decode cX12_goesOn 112 = .ok (.invokevirtual 339, 3) := by decide +kernel
theorem dX12_goesOn_115 : decode cX12_goesOn 115 = .ok (.aload_n 0, 1) := by decide +kernel
theorem dX12_goesOn_116 : decode cX12_goesOn 116 = .ok (.aload_n 0, 1) := by decide +kernel
theorem dX12_goesOn_117 : decode cX12_goesOn 117 = .ok (.bipush 43, 2) := by decide +kernel
theorem dX12_goesOn_119 : decode cX12_goesOn 119 = .ok (.invokevirtual 249, 3) := by decide +kernel
theorem dX12_goesOn_122 : decode cX12_goesOn 122 = .ok (.ifCond .eq 8, 3) := by decide +kernel
theorem dX12_goesOn_125 : decode cX12_goesOn 125 = .ok (.bipush 31, 2) := by decide +kernel
theorem dX12_goesOn_127 : decode cX12_goesOn 127 = .ok (.goto 47, 3) := by decide +kernel
theorem dX12_goesOn_130 : decode cX12_goesOn 130 = .ok (.aload_n 0, 1) := by decide +kernel
theorem dX12_goesOn_131 : decode cX12_goesOn 131 = .ok (.bipush 45, 2) := by decide +kernel
theorem dX12_goesOn_133 : decode cX12_goesOn 133 = .ok (.invokevirtual 249, 3) := by decide +kernel
theorem dX12_goesOn_136 : decode cX12_goesOn 136 = .ok (.ifCond .eq 8, 3) := by decide +kernel
theorem dX12_goesOn_139 : decode cX12_goesOn 139 = .ok (.bipush 32, 2) := by decide +kernel
theorem dX12_goesOn_141 : decode cX12_goesOn 141 = .ok (.goto 33, 3) := by decide +kernel
theorem dX12_goesOn_144 : decode cX12_goesOn 144 = .ok (.aload_n 0, 1) := by decide +kernel
theorem dX12_goesOn_145 : decode cX12_goesOn 145 = .ok (.bipush 42, 2) := by decide +kernel
theorem dX12_goesOn_147 : decode cX12_goesOn 147 = .ok (.invokevirtual 249, 3) := by decide +kernel
theorem dX12_goesOn_150 : decode cX12_goesOn 150 = .ok (.ifCond .eq 8, 3) := by decide +kernel
theorem dX12_goesOn_153 : decode cX12_goesOn 153 = .ok (.bipush 33, 2) := by decide +kernel
theorem dX12_goesOn_155 : decode cX12_goesOn 155 = .ok (.goto 19, 3) := by decide +kernel
theorem dX12_goesOn_158 : decode cX12_goesOn 158 = .ok (.aload_n 0, 1) := by decide +kernel
theorem dX12_goesOn_159 : decode cX12_goesOn 159 = .ok (.bipush 47, 2) := by decide +kernel
theorem dX12_goesOn_161 : decode cX12_goesOn 161 = .ok (.invokevirtual 249, 3) := by decide +kernel
theorem dX12_goesOn_164 : decode cX12_goesOn 164 = .ok (.ifCond .eq 8, 3) := by decide +kernel
theorem dX12_goesOn_167 : decode cX12_goesOn 167 = .ok (.bipush 34, 2) := by decide +kernel
theorem dX12_goesOn_169 : decode cX12_goesOn 169 = .ok (.goto 5, 3) := by decide +kernel
theorem dX12_goesOn_172 : decode cX12_goesOn 172 = .ok (.bipush 35, 2) := by decide +kernel
theorem dX12_goesOn_174 : decode cX12_goesOn 174 = .ok (.invokevirtual 333, 3) := by decide +kernel
theorem dX12_goesOn_177 : decode cX12_goesOn 177 = .ok (.aload_n 0, 1) := by decide +kernel
theorem dX12_goesOn_178 : decode cX12_goesOn 178 = .ok (.invokevirtual 252, 3) := by decide +kernel
theorem dX12_goesOn_181 : decode cX12_goesOn 181 = .ok (.aload_n 0, 1) := by decide +kernel
theorem dX12_goesOn_182 : decode cX12_goesOn 182 = .ok (.iconst 0, 1) := by decide +kernel
theorem dX12_goesOn_183 : decode cX12_goesOn 183 = .ok (.putfield 106, 3) := by decide +kernel
theorem dX12_goesOn_186 : decode cX12_goesOn 186 = .ok (.iconst 1, 1) := by decide +kernel
theorem dX12_goesOn_187 : decode cX12_goesOn 187 = .ok (.ireturn, 1) := by decide +kernel
theorem dX12_goesOn_188 : decode cX12_goesOn 188 = .ok (.iload_n 3, 1) := by decide +kernel
theorem dX12_goesOn_189 : decode cX12_goesOn 189 = .ok (.ifCond .eq 96, 3) := by decide +kernel
theorem dX12_goesOn_192 : decode cX12_goesOn 192 = .ok (.aload_n 0, 1) := by decide +kernel
theorem dX12_goesOn_193 : decode cX12_goesOn 193 = .ok (.getfield 81, 3) := by decide +kernel
theorem dX12_goesOn_196 : decode cX12_goesOn 196 = .ok (.iload_n 1, 1) := by decide +kernel
theorem dX12_goesOn_197 : decode cX12_goesOn 197 = .ok (.iaload, 1) := by decide +kernel
theorem dX12_goesOn_198 : decode cX12_goesOn 198 = .ok (.ifCond .ne 87, 3) := by decide +kernel
theorem dX12_goesOn_201 : decode cX12_goesOn 201 = .ok (.aload_n 0, 1) := by decide +kernel
theorem dX12_goesOn_202 : decode cX12_goesOn 202 = .ok (.bipush 60, 2) := by decide +kernel
theorem dX12_goesOn_204 : decode cX12_goesOn 204 = .ok (.invokevirtual 249, 3) := by decide +kernel
theorem dX12_goesOn_207 : decode cX12_goesOn 207 = .ok (.ifCond .ne 21, 3) := by decide +kernel
theorem dX12_goesOn_210 : decode cX12_goesOn 210 = .ok (.aload_n 0, 1) := by decide +kernel
theorem dX12_goesOn_211 : decode cX12_goesOn 211 = .ok (.bipush 62, 2) := by decide +kernel
theorem dX12_goesOn_213 : decode cX12_goesOn 213 = .ok (.invokevirtual 249, 3) := by decide +kernel
theorem dX12_goesOn_216 : decode cX12_goesOn 216 = .ok (.ifCond .ne 12, 3) := by decide +kernel
theorem dX12_goesOn_219 : decode cX12_goesOn 219 = .ok (.aload_n 0, 1) := by decide +kernel
theorem dX12_goesOn_220 : decode cX12_goesOn 220 = .ok (.bipush 61, 2) := by decide +kernel
theorem dX12_goesOn_222 : decode cX12_goesOn 222 = .ok (.invokevirtual 249, 3) := by decide +kernel
theorem dX12_goesOn_225 : decode cX12_goesOn 225 = .ok (.ifCond .eq 60, 3) := by decide +kernel
theorem dX12_goesOn_228 : decode cX12_goesOn 228 = .ok (.aload_n 0, 1) := by decide +kernel
theorem dX12_goesOn_229 : decode cX12_goesOn 229 = .ok (.iconst 5, 1) := by decide +kernel
theorem dX12_goesOn_230 : decode cX12_goesOn 230 = .ok (.invokevirtual 339, 3) := by decide +kernel
theorem dX12_goesOn_233 : decode cX12_goesOn 233 = .ok (.aload_n 0, 1) := by decide +kernel
theorem dX12_goesOn_234 : decode cX12_goesOn 234 = .ok (.aload_n 0, 1) := by decide +kernel
theorem dX12_goesOn_235 : decode cX12_goesOn 235 = .ok (.bipush 60, 2) := by decide +kernel
theorem dX12_goesOn_237 : decode cX12_goesOn 237 = .ok (.invokevirtual 249, 3) := by decide +kernel
theorem dX12_goesOn_240 : decode cX12_goesOn 240 = .ok (.ifCond .eq 8, 3) := by decide +kernel
theorem dX12_goesOn_243 : decode cX12_goesOn 243 = .ok (.bipush 38, 2) := by decide +kernel
theorem dX12_goesOn_245 : decode cX12_goesOn 245 = .ok (.goto 19, 3) := by decide +kernel
theorem dX12_goesOn_248 : decode cX12_goesOn 248 = .ok (.aload_n 0, 1) := by decide +kernel
theorem dX12_goesOn_249 : decode cX12_goesOn 249 = .ok (.bipush 62, 2) := by decide +kernel
theorem dX12_goesOn_251 : decode cX12_goesOn 251 = .ok (.invokevirtual 249, 3) := by decide +kernel
theorem dX12_goesOn_254 : decode cX12_goesOn 254 = .ok (.ifCond .eq 8, 3) := by decide +kernel
theorem dX12_goesOn_257 : decode cX12_goesOn 257 = .ok (.bipush 39, 2) := by decide +kernel
theorem dX12_goesOn_259 : decode cX12_goesOn 259 = .ok (.goto 5, 3) := by decide +kernel
theorem dX12_goesOn_262 : decode cX12_goesOn 262 = .ok (.bipush 40, 2) := by decide +kernel
theorem dX12_goesOn_264 : decode cX12_goesOn 264 = .ok (.invokevirtual 333, 3) := by decide +kernel
theorem dX12_goesOn_267 : decode cX12_goesOn 267 = .ok (.aload_n 0, 1) := by decide +kernel
theorem dX12_goesOn_268 : decode cX12_goesOn 268 = .ok (.getfield 81, 3) := by decide +kernel
theorem dX12_goesOn_271 : decode cX12_goesOn 271 = .ok (.iload_n 1, 1) := by decide +kernel
theorem dX12_goesOn_272 : decode cX12_goesOn 272 = .ok (.iconst 1, 1) := by decide +kernel
theorem dX12_goesOn_273 : decode cX12_goesOn 273 = .ok (.iastore, 1) := by decide +kernel
theorem dX12_goesOn_274 : decode cX12_goesOn 274 = .ok (.aload_n 0, 1) := by decide +kernel
theorem dX12_goesOn_275 : decode cX12_goesOn 275 = .ok (.invokevirtual 252, 3) := by decide +kernel
theorem dX12_goesOn_278 : decode cX12_goesOn 278 = .ok (.aload_n 0, 1) := by decide +kernel
theorem dX12_goesOn_279 : decode cX12_goesOn 279 = .ok (.iconst 0, 1) := by decide +kernel
theorem dX12_goesOn_280 : decode cX12_goesOn 280 = .ok (.putfield 106, 3) := by decide +kernel
theorem dX12_goesOn_283 : decode cX12_goesOn 283 = .ok (.iconst 1, 1) := by decide +kernel
theorem dX12_goesOn_284 : decode cX12_goesOn 284 = .ok (.ireturn, 1) := by decide +kernel
theorem dX12_goesOn_285 : decode cX12_goesOn 285 = .ok (.iload_n 3, 1) := by decide +kernel
theorem dX12_goesOn_286 : decode cX12_goesOn 286 = .ok (.ifCond .eq 114, 3) := by decide +kernel
theorem dX12_goesOn_289 : decode cX12_goesOn 289 = .ok (.aload_n 0, 1) := by decide +kernel
theorem dX12_goesOn_290 : decode cX12_goesOn 290 = .ok (.ldc2_w 303, 3) := by decide +kernel
theorem dX12_goesOn_293 : decode cX12_goesOn 293 = .ok (.invokevirtual 329, 3) := by decide +kernel
theorem dX12_goesOn_296 : decode cX12_goesOn 296 = .ok (.ifCond .ne 13, 3) := by decide +kernel
theorem dX12_goesOn_299 : decode cX12_goesOn 299 = .ok (.aload_n 0, 1) := by decide +kernel
theorem dX12_goesOn_300 : decode cX12_goesOn 300 = .ok (.ldc2_w 301, 3) := by decide +kernel
theorem dX12_goesOn_303 : decode cX12_goesOn 303 = .ok (.invokevirtual 329, 3) := by decide +kernel
theorem dX12_goesOn_306 : decode cX12_goesOn 306 = .ok (.ifCond .eq 94, 3) := by decide +kernel
theorem dX12_goesOn_309 : decode cX12_goesOn 309 = .ok (.aload_n 0, 1) := by decide +kernel
theorem dX12_goesOn_310 : decode cX12_goesOn 310 = .ok (.getfield 81, 3) := by decide +kernel
theorem dX12_goesOn_313 : decode cX12_goesOn 313 = .ok (.iload_n 1, 1) := by decide +kernel
theorem dX12_goesOn_314 : decode cX12_goesOn 314 = .ok (.iaload, 1) := by decide +kernel
theorem dX12_goesOn_315 : decode cX12_goesOn 315 = .ok (.ifCond .ne 12, 3) := by decide +kernel
theorem dX12_goesOn_318 : decode cX12_goesOn 318 = .ok (.aload_n 0, 1) := by decide +kernel
theorem dX12_goesOn_319 : decode cX12_goesOn 319 = .ok (.iconst 1, 1) := by decide +kernel
theorem dX12_goesOn_320 : decode cX12_goesOn 320 = .ok (.aload_n 0, 1) := by decide +kernel
theorem dX12_goesOn_321 : decode cX12_goesOn 321 = .ok (.getfield 23, 3) := by decide +kernel
theorem dX12_goesOn_324 : decode cX12_goesOn 324 = .ok (.invokevirtual 235, 3) := by decide +kernel
theorem dX12_goesOn_327 : decode cX12_goesOn 327 = .ok (.aload_n 0, 1) := by decide +kernel
theorem dX12_goesOn_328 : decode cX12_goesOn 328 = .ok (.getfield 36, 3) := by decide +kernel
theorem dX12_goesOn_331 : decode cX12_goesOn 331 = .ok (.ifCond .le 5, 3) := by decide +kernel
theorem dX12_goesOn_334 : decode cX12_goesOn 334 = .ok (.iconst 0, 1) := by decide +kernel
theorem dX12_goesOn_335 : decode cX12_goesOn 335 = .ok (.ireturn, 1) := by decide +kernel
theorem dX12_goesOn_336 : decode cX12_goesOn 336 = .ok (.aload_n 0, 1) := by decide +kernel
theorem dX12_goesOn_337 : decode cX12_goesOn 337 = .ok (.ldc2_w 303, 3) := by decide +kernel
theorem dX12_goesOn_340 : decode cX12_goesOn 340 = .ok (.invokevirtual 329, 3) := by decide +kernel
theorem dX12_goesOn_343 : decode cX12_goesOn 343 = .ok (.istore 4, 2) := by decide +kernel
theorem dX12_goesOn_345 : decode cX12_goesOn 345 = .ok (.aload_n 0, 1) := by decide +kernel
theorem dX12_goesOn_346 : decode cX12_goesOn 346 = .ok (.iload 4, 2) := by decide +kernel
theorem dX12_goesOn_348 : decode cX12_goesOn 348 = .ok (.ifCond .eq 7, 3) := by decide +kernel
theorem dX12_goesOn_351 : decode cX12_goesOn 351 = .ok (.iconst 2, 1) := by decide +kernel
theorem dX12_goesOn_352 : decode cX12_goesOn 352 = .ok (.goto 4, 3) := by decide +kernel
theorem dX12_goesOn_355 : decode cX12_goesOn 355 = .ok (.iconst 1, 1) := by decide +kernel
theorem dX12_goesOn_356 : decode cX12_goesOn 356 = .ok (.invokevirtual 339, 3) := by decide +kernel
theorem dX12_goesOn_359 : decode cX12_goesOn 359 = .ok (.aload_n 0, 1) := by decide +kernel
theorem dX12_goesOn_360 : decode cX12_goesOn 360 = .ok (.iload 4, 2) := by decide +kernel
theorem dX12_goesOn_362 : decode cX12_goesOn 362 = .ok (.ifCond .eq 8, 3) := by decide +kernel
theorem dX12_goesOn_365 : decode cX12_goesOn 365 = .ok (.bipush 41, 2) := by decide +kernel
theorem dX12_goesOn_367 : decode cX12_goesOn 367 = .ok (.goto 5, 3) := by decide +kernel
theorem dX12_goesOn_370 : decode cX12_goesOn 370 = .ok (.bipush 42, 2) := by decide +kernel
theorem dX12_goesOn_372 : decode cX12_goesOn 372 = .ok (.invokevirtual 333, 3) := by decide +kernel
theorem dX12_goesOn_375 : decode cX12_goesOn 375 = .ok (.aload_n 0, 1) := by decide +kernel
theorem dX12_goesOn_376 : decode cX12_goesOn 376 = .ok (.getfield 81, 3) := by decide +kernel
theorem dX12_goesOn_379 : decode cX12_goesOn 379 = .ok (.iload_n 1, 1) := by decide +kernel
theorem dX12_goesOn_380 : decode cX12_goesOn 380 = .ok (.iconst 0, 1) := by decide +kernel
theorem dX12_goesOn_381 : decode cX12_goesOn 381 = .ok (.iastore, 1) := by decide +kernel
theorem dX12_goesOn_382 : decode cX12_goesOn 382 = .ok (.aload_n 0, 1) := by decide +kernel
theorem dX12_goesOn_383 : decode cX12_goesOn 383 = .ok (.getfield 84, 3) := by decide +kernel
theorem dX12_goesOn_386 : decode cX12_goesOn 386 = .ok (.iload_n 1, 1) := by decide +kernel
theorem dX12_goesOn_387 : decode cX12_goesOn 387 = .ok (.iconst 1, 1) := by decide +kernel
theorem dX12_goesOn_388 : decode cX12_goesOn 388 = .ok (.bastore, 1) := by decide +kernel
theorem dX12_goesOn_389 : decode cX12_goesOn 389 = .ok (.aload_n 0, 1) := by decide +kernel
theorem dX12_goesOn_390 : decode cX12_goesOn 390 = .ok (.invokevirtual 252, 3) := by decide +kernel
theorem dX12_goesOn_393 : decode cX12_goesOn 393 = .ok (.aload_n 0, 1) := by decide +kernel
theorem dX12_goesOn_394 : decode cX12_goesOn 394 = .ok (.iconst 0, 1) := by decide +kernel
theorem dX12_goesOn_395 : decode cX12_goesOn 395 = .ok (.putfield 106, 3) := by decide +kernel
theorem dX12_goesOn_398 : decode cX12_goesOn 398 = .ok (.iconst 1, 1) := by decide +kernel
theorem dX12_goesOn_399 : decode cX12_goesOn 399 = .ok (.ireturn, 1) := by decide +kernel
theorem dX12_goesOn_400 : decode cX12_goesOn 400 = .ok (.iload_n 3, 1) := by decide +kernel
theorem dX12_goesOn_401 : decode cX12_goesOn 401 = .ok (.ifCond .eq 21, 3) := by decide +kernel
theorem dX12_goesOn_404 : decode cX12_goesOn 404 = .ok (.aload_n 0, 1) := by decide +kernel
theorem dX12_goesOn_405 : decode cX12_goesOn 405 = .ok (.getfield 81, 3) := by decide +kernel
theorem dX12_goesOn_408 : decode cX12_goesOn 408 = .ok (.iload_n 1, 1) := by decide +kernel
theorem dX12_goesOn_409 : decode cX12_goesOn 409 = .ok (.iaload, 1) := by decide +kernel
theorem dX12_goesOn_410 : decode cX12_goesOn 410 = .ok (.ifCond .ne 12, 3) := by decide +kernel
theorem dX12_goesOn_413 : decode cX12_goesOn 413 = .ok (.aload_n 0, 1) := by decide +kernel
theorem dX12_goesOn_414 : decode cX12_goesOn 414 = .ok (.iconst 1, 1) := by decide +kernel
theorem dX12_goesOn_415 : decode cX12_goesOn 415 = .ok (.aload_n 0, 1) := by decide +kernel
theorem dX12_goesOn_416 : decode cX12_goesOn 416 = .ok (.getfield 23, 3) := by decide +kernel
theorem dX12_goesOn_419 : decode cX12_goesOn 419 = .ok (.invokevirtual 235, 3) := by decide +kernel
theorem dX12_goesOn_422 : decode cX12_goesOn 422 = .ok (.iload_n 2, 1) := by decide +kernel
theorem dX12_goesOn_423 : decode cX12_goesOn 423 = .ok (.iconst 2, 1) := by decide +kernel
theorem dX12_goesOn_424 : decode cX12_goesOn 424 = .ok (.if_icmp .ge 17, 3) := by decide +kernel
theorem dX12_goesOn_427 : decode cX12_goesOn 427 = .ok (.aload_n 0, 1) := by decide +kernel
theorem dX12_goesOn_428 : decode cX12_goesOn 428 = .ok (.getfield 36, 3) := by decide +kernel
theorem dX12_goesOn_431 : decode cX12_goesOn 431 = .ok (.ifCond .ne 8, 3) := by decide +kernel
theorem dX12_goesOn_434 : decode cX12_goesOn 434 = .ok (.aload_n 0, 1) := by decide +kernel
theorem dX12_goesOn_435 : decode cX12_goesOn 435 = .ok (.iconst 1, 1) := by decide +kernel
theorem dX12_goesOn_436 : decode cX12_goesOn 436 = .ok (.invokevirtual 339, 3) := by decide +kernel
theorem dX12_goesOn_439 : decode cX12_goesOn 439 = .ok (.iconst 0, 1) := by decide +kernel
theorem dX12_goesOn_440 : decode cX12_goesOn 440 = .ok (.ireturn, 1) := by decide +kernel
theorem dX12_goesOn_441 : decode cX12_goesOn 441 = .ok (.iload_n 2, 1) := by decide +kernel
theorem dX12_goesOn_442 : decode cX12_goesOn 442 = .ok (.iconst 3, 1) := by decide +kernel
theorem dX12_goesOn_443 : decode cX12_goesOn 443 = .ok (.if_icmp .eq 9, 3) := by decide +kernel
theorem dX12_goesOn_446 : decode cX12_goesOn 446 = .ok (.iload_n 2, 1) := by decide +kernel
theorem dX12_goesOn_447 : decode cX12_goesOn 447 = .ok (.bipush 6, 2) := by decide +kernel
theorem dX12_goesOn_449 : decode cX12_goesOn 449 = .ok (.if_icmp .ne 69, 3) := by decide +kernel
theorem dX12_goesOn_452 : decode cX12_goesOn 452 = .ok (.aload_n 0, 1) := by decide +kernel
theorem dX12_goesOn_453 : decode cX12_goesOn 453 = .ok (.bipush 44, 2) := by decide +kernel
theorem dX12_goesOn_455 : decode cX12_goesOn 455 = .ok (.invokevirtual 249, 3) := by decide +kernel
theorem dX12_goesOn_458 : decode cX12_goesOn 458 = .ok (.ifCond .ne 12, 3) := by decide +kernel
theorem dX12_goesOn_461 : decode cX12_goesOn 461 = .ok (.aload_n 0, 1) := by decide +kernel
theorem dX12_goesOn_462 : decode cX12_goesOn 462 = .ok (.iconst 1, 1) := by decide +kernel
theorem dX12_goesOn_463 : decode cX12_goesOn 463 = .ok (.aload_n 0, 1) := by decide +kernel
theorem dX12_goesOn_464 : decode cX12_goesOn 464 = .ok (.getfield 23, 3) := by decide +kernel
theorem dX12_goesOn_467 : decode cX12_goesOn 467 = .ok (.invokevirtual 235, 3) := by decide +kernel
theorem dX12_goesOn_470 : decode cX12_goesOn 470 = .ok (.aload_n 0, 1) := by decide +kernel
theorem dX12_goesOn_471 : decode cX12_goesOn 471 = .ok (.getfield 36, 3) := by decide +kernel
theorem dX12_goesOn_474 : decode cX12_goesOn 474 = .ok (.ifCond .le 5, 3) := by decide +kernel
theorem dX12_goesOn_477 : decode cX12_goesOn 477 = .ok (.iconst 0, 1) := by decide +kernel
theorem dX12_goesOn_478 : decode cX12_goesOn 478 = .ok (.ireturn, 1) := by decide +kernel
theorem dX12_goesOn_479 : decode cX12_goesOn 479 = .ok (.aload_n 0, 1) := by decide +kernel
theorem dX12_goesOn_480 : decode cX12_goesOn 480 = .ok (.iconst 1, 1) := by decide +kernel
theorem dX12_goesOn_481 : decode cX12_goesOn 481 = .ok (.invokevirtual 339, 3) := by decide +kernel
theorem dX12_goesOn_484 : decode cX12_goesOn 484 = .ok (.aload_n 0, 1) := by decide +kernel
theorem dX12_goesOn_485 : decode cX12_goesOn 485 = .ok (.getfield 78, 3) := by decide +kernel
theorem dX12_goesOn_488 : decode cX12_goesOn 488 = .ok (.iload_n 1, 1) := by decide +kernel
theorem dX12_goesOn_489 : decode cX12_goesOn 489 = .ok (.iload_n 2, 1) := by decide +kernel
theorem dX12_goesOn_490 : decode cX12_goesOn 490 = .ok (.iconst 3, 1) := by decide +kernel
theorem dX12_goesOn_491 : decode cX12_goesOn 491 = .ok (.if_icmp .ne 7, 3) := by decide +kernel
theorem dX12_goesOn_494 : decode cX12_goesOn 494 = .ok (.iconst 4, 1) := by decide +kernel
theorem dX12_goesOn_495 : decode cX12_goesOn 495 = .ok (.goto 4, 3) := by decide +kernel
theorem dX12_goesOn_498 : decode cX12_goesOn 498 = .ok (.iconst 3, 1) := by decide +kernel
theorem dX12_goesOn_499 : decode cX12_goesOn 499 = .ok (.iastore, 1) := by decide +kernel
theorem dX12_goesOn_500 : decode cX12_goesOn 500 = .ok (.aload_n 0, 1) := by decide +kernel
theorem dX12_goesOn_501 : decode cX12_goesOn 501 = .ok (.getfield 81, 3) := by decide +kernel
theorem dX12_goesOn_504 : decode cX12_goesOn 504 = .ok (.iload_n 1, 1) := by decide +kernel
theorem dX12_goesOn_505 : decode cX12_goesOn 505 = .ok (.iconst 0, 1) := by decide +kernel
theorem dX12_goesOn_506 : decode cX12_goesOn 506 = .ok (.iastore, 1) := by decide +kernel
theorem dX12_goesOn_507 : decode cX12_goesOn 507 = .ok (.aload_n 0, 1) := by decide +kernel
theorem dX12_goesOn_508 : decode cX12_goesOn 508 = .ok (.invokevirtual 252, 3) := by decide +kernel
theorem dX12_goesOn_511 : decode cX12_goesOn 511 = .ok (.aload_n 0, 1) := by decide +kernel
theorem dX12_goesOn_512 : decode cX12_goesOn 512 = .ok (.iconst 0, 1) := by decide +kernel
theorem dX12_goesOn_513 : decode cX12_goesOn 513 = .ok (.putfield 106, 3) := by decide +kernel
theorem dX12_goesOn_516 : decode cX12_goesOn 516 = .ok (.iconst 1, 1) := by decide +kernel
theorem dX12_goesOn_517 : decode cX12_goesOn 517 = .ok (.ireturn, 1) := by decide +kernel
theorem dX12_goesOn_518 : decode cX12_goesOn 518 = .ok (.aload_n 0, 1) := by decide +kernel
theorem dX12_goesOn_519 : decode cX12_goesOn 519 = .ok (.iload_n 2, 1) := by decide +kernel
theorem dX12_goesOn_520 : decode cX12_goesOn 520 = .ok (.iconst 5, 1) := by decide +kernel
theorem dX12_goesOn_521 : decode cX12_goesOn 521 = .ok (.if_icmp .ne 8, 3) := by decide +kernel
theorem dX12_goesOn_524 : decode cX12_goesOn 524 = .ok (.bipush 93, 2) := by decide +kernel
theorem dX12_goesOn_526 : decode cX12_goesOn 526 = .ok (.goto 5, 3) := by decide +kernel
theorem dX12_goesOn_529 : decode cX12_goesOn 529 = .ok (.bipush 41, 2) := by decide +kernel
theorem dX12_goesOn_531 : decode cX12_goesOn 531 = .ok (.invokevirtual 249, 3) := by decide +kernel
theorem dX12_goesOn_534 : decode cX12_goesOn 534 = .ok (.ifCond .ne 12, 3) := by decide +kernel
theorem dX12_goesOn_537 : decode cX12_goesOn 537 = .ok (.aload_n 0, 1) := by decide +kernel
theorem dX12_goesOn_538 : decode cX12_goesOn 538 = .ok (.iconst 1, 1) := by decide +kernel
theorem dX12_goesOn_539 : decode cX12_goesOn 539 = .ok (.aload_n 0, 1) := by decide +kernel
theorem dX12_goesOn_540 : decode cX12_goesOn 540 = .ok (.getfield 23, 3) := by decide +kernel
theorem dX12_goesOn_543 : decode cX12_goesOn 543 = .ok (.invokevirtual 235, 3) := by decide +kernel
theorem dX12_goesOn_546 : decode cX12_goesOn 546 = .ok (.aload_n 0, 1) := by decide +kernel
theorem dX12_goesOn_547 : decode cX12_goesOn 547 = .ok (.getfield 36, 3) := by decide +kernel
theorem dX12_goesOn_550 : decode cX12_goesOn 550 = .ok (.ifCond .le 5, 3) := by decide +kernel
theorem dX12_goesOn_553 : decode cX12_goesOn 553 = .ok (.iconst 0, 1) := by decide +kernel
theorem dX12_goesOn_554 : decode cX12_goesOn 554 = .ok (.ireturn, 1) := by decide +kernel
theorem dX12_goesOn_555 : decode cX12_goesOn 555 = .ok (.aload_n 0, 1) := by decide +kernel
theorem dX12_goesOn_556 : decode cX12_goesOn 556 = .ok (.iconst 1, 1) := by decide +kernel
theorem dX12_goesOn_557 : decode cX12_goesOn 557 = .ok (.invokevirtual 339, 3) := by decide +kernel
theorem dX12_goesOn_560 : decode cX12_goesOn 560 = .ok (.aload_n 0, 1) := by decide +kernel
theorem dX12_goesOn_561 : decode cX12_goesOn 561 = .ok (.dup, 1) := by decide +kernel
theorem dX12_goesOn_562 : decode cX12_goesOn 562 = .ok (.getfield 94, 3) := by decide +kernel
theorem dX12_goesOn_565 : decode cX12_goesOn 565 = .ok (.iconst 1, 1) := by decide +kernel
theorem dX12_goesOn_566 : decode cX12_goesOn 566 = .ok (.isub, 1) := by decide +kernel
theorem dX12_goesOn_567 : decode cX12_goesOn 567 = .ok (.putfield 94, 3) := by decide +kernel
theorem dX12_goesOn_570 : decode cX12_goesOn 570 = .ok (.aload_n 0, 1) := by decide +kernel
theorem dX12_goesOn_571 : decode cX12_goesOn 571 = .ok (.dup, 1) := by decide +kernel
theorem dX12_goesOn_572 : decode cX12_goesOn 572 = .ok (.getfield 97, 3) := by decide +kernel
theorem dX12_goesOn_575 : decode cX12_goesOn 575 = .ok (.iconst 1, 1) := by decide +kernel
theorem dX12_goesOn_576 : decode cX12_goesOn 576 = .ok (.isub, 1) := by decide +kernel
theorem dX12_goesOn_577 : decode cX12_goesOn 577 = .ok (.putfield 97, 3) := by decide +kernel
theorem dX12_goesOn_580 : decode cX12_goesOn 580 = .ok (.iload_n 2, 1) := by decide +kernel
theorem dX12_goesOn_581 : decode cX12_goesOn 581 = .ok (.iconst 4, 1) := by decide +kernel
theorem dX12_goesOn_582 : decode cX12_goesOn 582 = .ok (.if_icmp .ne 14, 3) := by decide +kernel
theorem dX12_goesOn_585 : decode cX12_goesOn 585 = .ok (.aload_n 0, 1) := by decide +kernel
theorem dX12_goesOn_586 : decode cX12_goesOn 586 = .ok (.aload_n 0, 1) := by decide +kernel
theorem dX12_goesOn_587 : decode cX12_goesOn 587 = .ok (.getfield 88, 3) := by decide +kernel
theorem dX12_goesOn_590 : decode cX12_goesOn 590 = .ok (.iload_n 1, 1) := by decide +kernel
theorem dX12_goesOn_591 : decode cX12_goesOn 591 = .ok (.iaload, 1) := by decide +kernel
theorem dX12_goesOn_592 : decode cX12_goesOn 592 = .ok (.iconst 0, 1) := by decide +kernel
theorem dX12_goesOn_593 : decode cX12_goesOn 593 = .ok (.invokevirtual 320, 3) := by decide +kernel
theorem dX12_goesOn_596 : decode cX12_goesOn 596 = .ok (.iload_n 2, 1) := by decide +kernel
theorem dX12_goesOn_597 : decode cX12_goesOn 597 = .ok (.iconst 5, 1) := by decide +kernel
theorem dX12_goesOn_598 : decode cX12_goesOn 598 = .ok (.if_icmp .ne 15, 3) := by decide +kernel
theorem dX12_goesOn_601 : decode cX12_goesOn 601 = .ok (.aload_n 0, 1) := by decide +kernel
theorem dX12_goesOn_602 : decode cX12_goesOn 602 = .ok (.getfield 81, 3) := by decide +kernel
theorem dX12_goesOn_605 : decode cX12_goesOn 605 = .ok (.aload_n 0, 1) := by decide +kernel
theorem dX12_goesOn_606 : decode cX12_goesOn 606 = .ok (.getfield 94, 3) := by decide +kernel
theorem dX12_goesOn_609 : decode cX12_goesOn 609 = .ok (.iconst 1, 1) := by decide +kernel
theorem dX12_goesOn_610 : decode cX12_goesOn 610 = .ok (.isub, 1) := by decide +kernel
theorem dX12_goesOn_611 : decode cX12_goesOn 611 = .ok (.iconst 2, 1) := by decide +kernel
theorem dX12_goesOn_612 : decode cX12_goesOn 612 = .ok (.iastore, 1) := by decide +kernel
theorem dX12_goesOn_613 : decode cX12_goesOn 613 = .ok (.aload_n 0, 1) := by decide +kernel
theorem dX12_goesOn_614 : decode cX12_goesOn 614 = .ok (.invokevirtual 252, 3) := by decide +kernel
theorem dX12_goesOn_617 : decode cX12_goesOn 617 = .ok (.iconst 1, 1) := by decide +kernel
theorem dX12_goesOn_618 : decode cX12_goesOn 618 = .ok (.ireturn, 1) := by decide +kernel
abbrev MX12_goesOn : MI := (RX12, cX12_goesOn, 5, 3, false)
def bX12_goesOn : St := (seqS (calS (ckV 12 0) mX12_lex (agC va_rf (lvR 0) agN)) (seqS (ifS (gt0 (getI 12 8 (lvR 0))) (retI (ciI (iI 0)))) (seqS (lsI 1 (subI (getI 12 27 (lvR 0)) (ciI (iI 1)))) (seqS (lsI 2 (aldI 2 (getR 12 22 (lvR 0)) (lvI 1))) (seqS (lsI 3 (calX decI (ckS 1) mX12_isTest (agC Value.int (lvI 2) agN))) (seqS (ifS (andX (ltI (aldI 2 (getR 12 23 (lvR 0)) (lvI 1)) (ciI (iI 2))) (orX (orX (orX (orX (ne0 (calX decI (ckV 12 1) mX12_isSign (agC va_rf (lvR 0) (agC Value.int (ciI (iI 43)) agN)))) (ne0 (calX decI (ckV 12 1) mX12_isSign (agC va_rf (lvR 0) (agC Value.int (ciI (iI 45)) agN))))) (ne0 (calX decI (ckV 12 1) mX12_isSign (agC va_rf (lvR 0) (agC Value.int (ciI (iI 42)) agN))))) (ne0 (calX decI (ckV 12 1) mX12_isSign (agC va_rf (lvR 0) (agC Value.int (ciI (iI 47)) agN))))) (ne0 (calX decI (ckV 12 1) mX12_isSign (agC va_rf (lvR 0) (agC Value.int (ciI (iI 37)) agN)))))) (seqS (calS (ckV 12 1) mX12_joins (agC va_rf (lvR 0) (agC Value.int (iteX (orX (ne0 (calX decI (ckV 12 1) mX12_isSign (agC va_rf (lvR 0) (agC Value.int (ciI (iI 43)) agN)))) (ne0 (calX decI (ckV 12 1) mX12_isSign (agC va_rf (lvR 0) (agC Value.int (ciI (iI 45)) agN))))) (ciI (iI 5)) (ciI (iI 6))) agN))) (seqS (calS (ckV 12 1) mX12_holdsBack (agC va_rf (lvR 0) (agC Value.int (iteX (ne0 (calX decI (ckV 12 1) mX12_isSign (agC va_rf (lvR 0) (agC Value.int (ciI (iI 43)) agN)))) (ciI (iI 31)) (iteX (ne0 (calX decI (ckV 12 1) mX12_isSign (agC va_rf (lvR 0) (agC Value.int (ciI (iI 45)) agN)))) (ciI (iI 32)) (iteX (ne0 (calX decI (ckV 12 1) mX12_isSign (agC va_rf (lvR 0) (agC Value.int (ciI (iI 42)) agN)))) (ciI (iI 33)) (iteX (ne0 (calX decI (ckV 12 1) mX12_isSign (agC va_rf (lvR 0) (agC Value.int (ciI (iI 47)) agN)))) (ciI (iI 34)) (ciI (iI 35)))))) agN))) (seqS (calS (ckV 12 0) mX12_ahead (agC va_rf (lvR 0) agN)) (seqS (putZ 12 31 (lvR 0) (ciI (iI 0))) (retI (ciI (iI 1)))))))) (seqS (ifS (andX (andX (ne0 (lvI 3)) (eq0 (aldI 2 (getR 12 23 (lvR 0)) (lvI 1)))) (orX (orX (ne0 (calX decI (ckV 12 1) mX12_isSign (agC va_rf (lvR 0) (agC Value.int (ciI (iI 60)) agN)))) (ne0 (calX decI (ckV 12 1) mX12_isSign (agC va_rf (lvR 0) (agC Value.int (ciI (iI 62)) agN))))) (ne0 (calX decI (ckV 12 1) mX12_isSign (agC va_rf (lvR 0) (agC Value.int (ciI (iI 61)) agN)))))) (seqS (calS (ckV 12 1) mX12_joins (agC va_rf (lvR 0) (agC Value.int (ciI (iI 5)) agN))) (seqS (calS (ckV 12 1) mX12_holdsBack (agC va_rf (lvR 0) (agC Value.int (iteX (ne0 (calX decI (ckV 12 1) mX12_isSign (agC va_rf (lvR 0) (agC Value.int (ciI (iI 60)) agN)))) (ciI (iI 38)) (iteX (ne0 (calX decI (ckV 12 1) mX12_isSign (agC va_rf (lvR 0) (agC Value.int (ciI (iI 62)) agN)))) (ciI (iI 39)) (ciI (iI 40)))) agN))) (seqS (astI (getR 12 23 (lvR 0)) (lvI 1) (ciI (iI 1))) (seqS (calS (ckV 12 0) mX12_ahead (agC va_rf (lvR 0) agN)) (seqS (putZ 12 31 (lvR 0) (ciI (iI 0))) (retI (ciI (iI 1))))))))) (seqS (ifS (andX (ne0 (lvI 3)) (orX (ne0 (calX decI (ckV 12 1) mX12_isWord (agC va_rf (lvR 0) (agC Value.long (clL (lI 6385252)) agN)))) (ne0 (calX decI (ckV 12 1) mX12_isWord (agC va_rf (lvR 0) (agC Value.long (clL (lI 28530)) agN)))))) (scS 4 (seqS (ifS (eq0 (aldI 2 (getR 12 23 (lvR 0)) (lvI 1))) (calS (ckV 12 2) mX12_blame (agC va_rf (lvR 0) (agC Value.int (ciI (iI 1)) (agC Value.int (getI 12 4 (lvR 0)) agN))))) (seqS (ifS (gt0 (getI 12 8 (lvR 0))) (retI (ciI (iI 0)))) (seqS (lsI 4 (calX decI (ckV 12 1) mX12_isWord (agC va_rf (lvR 0) (agC Value.long (clL (lI 6385252)) agN)))) (seqS (calS (ckV 12 1) mX12_joins (agC va_rf (lvR 0) (agC Value.int (iteX (ne0 (lvI 4)) (ciI (iI 2)) (ciI (iI 1))) agN))) (seqS (calS (ckV 12 1) mX12_holdsBack (agC va_rf (lvR 0) (agC Value.int (iteX (ne0 (lvI 4)) (ciI (iI 41)) (ciI (iI 42))) agN))) (seqS (astI (getR 12 23 (lvR 0)) (lvI 1) (ciI (iI 0))) (seqS (astZ (getR 12 24 (lvR 0)) (lvI 1) (ciI (iI 1))) (seqS (calS (ckV 12 0) mX12_ahead (agC va_rf (lvR 0) agN)) (seqS (putZ 12 31 (lvR 0) (ciI (iI 0))) (retI (ciI (iI 1)))))))))))))) (seqS (ifS (andX (ne0 (lvI 3)) (eq0 (aldI 2 (getR 12 23 (lvR 0)) (lvI 1)))) (calS (ckV 12 2) mX12_blame (agC va_rf (lvR 0) (agC Value.int (ciI (iI 1)) (agC Value.int (getI 12 4 (lvR 0)) agN))))) (seqS (ifS (ltI (lvI 2) (ciI (iI 2))) (seqS (ifS (eq0 (getI 12 8 (lvR 0))) (calS (ckV 12 1) mX12_joins (agC va_rf (lvR 0) (agC Value.int (ciI (iI 1)) agN)))) (retI (ciI (iI 0))))) (seqS (ifS (orX (eqI (lvI 2) (ciI (iI 3))) (eqI (lvI 2) (ciI (iI 6)))) (seqS (ifS (notX (ne0 (calX decI (ckV 12 1) mX12_isSign (agC va_rf (lvR 0) (agC Value.int (ciI (iI 44)) agN))))) (calS (ckV 12 2) mX12_blame (agC va_rf (lvR 0) (agC Value.int (ciI (iI 1)) (agC Value.int (getI 12 4 (lvR 0)) agN))))) (seqS (ifS (gt0 (getI 12 8 (lvR 0))) (retI (ciI (iI 0)))) (seqS (calS (ckV 12 1) mX12_joins (agC va_rf (lvR 0) (agC Value.int (ciI (iI 1)) agN))) (seqS (astI (getR 12 22 (lvR 0)) (lvI 1) (iteX (eqI (lvI 2) (ciI (iI 3))) (ciI (iI 4)) (ciI (iI 3)))) (seqS (astI (getR 12 23 (lvR 0)) (lvI 1) (ciI (iI 0))) (seqS (calS (ckV 12 0) mX12_ahead (agC va_rf (lvR 0) agN)) (seqS (putZ 12 31 (lvR 0) (ciI (iI 0))) (retI (ciI (iI 1))))))))))) (seqS (ifS (notX (ne0 (calX decI (ckV 12 1) mX12_isSign (agC va_rf (lvR 0) (agC Value.int (iteX (eqI (lvI 2) (ciI (iI 5))) (ciI (iI 93)) (ciI (iI 41))) agN))))) (calS (ckV 12 2) mX12_blame (agC va_rf (lvR 0) (agC Value.int (ciI (iI 1)) (agC Value.int (getI 12 4 (lvR 0)) agN))))) (seqS (ifS (gt0 (getI 12 8 (lvR 0))) (retI (ciI (iI 0)))) (seqS (calS (ckV 12 1) mX12_joins (agC va_rf (lvR 0) (agC Value.int (ciI (iI 1)) agN))) (seqS (updI 12 27 (fun x y => x - y) (lvR 0) (ciI (iI 1))) (seqS (updI 12 28 (fun x y => x - y) (lvR 0) (ciI (iI 1))) (seqS (ifS (eqI (lvI 2) (ciI (iI 4))) (calS (ckV 12 2) mX12_add (agC va_rf (lvR 0) (agC Value.int (aldI 2 (getR 12 25 (lvR 0)) (lvI 1)) (agC Value.int (ciI (iI 0)) agN))))) (seqS (ifS (eqI (lvI 2) (ciI (iI 5))) (astI (getR 12 23 (lvR 0)) (subI (getI 12 27 (lvR 0)) (ciI (iI 1))) (ciI (iI 2)))) (seqS (calS (ckV 12 0) mX12_ahead (agC va_rf (lvR 0) agN)) (retI (ciI (iI 1))))))))))))))))))))))
theorem jX12_goesOn : JS MX12_goesOn 0 0 0 619 [] bX12_goesOn :=
  (JS.seq (pc1 := 4) (JS.call (pc1 := 1) (JA.r (JX.al (k := 0) rfl dX12_goesOn_0) JA.nil) aX12_lex (RunK.V (i := 246) (c := 12) (n := 0) cl12 rfl (CN nX12_lex (by decide) (by decide)) gw1573 gw1575 gs61 dX12_goesOn_1)) (JS.seq (pc1 := 13) (JS.iff (l := 13) (pc1 := 11) (CJ.gt0_f (tgt := 13) (pc1 := 8) (JX.getI (pc1 := 5) (c := 12) (k := 8) (i := 36) (JX.al (k := 0) rfl dX12_goesOn_4) cl12 (by decide) rfl fk12_36 dX12_goesOn_5) dX12_goesOn_8 rfl) (JS.retI (pc1 := 12) (JX.ic (n := 0) rfl dX12_goesOn_11) dX12_goesOn_12) (Or.inl rfl)) (JS.seq (pc1 := 20) (JS.is (pc1 := 19) (k := 1) (JX.isub (pc1 := 17) (pc2 := 18) (JX.getI (pc1 := 14) (c := 12) (k := 27) (i := 94) (JX.al (k := 0) rfl dX12_goesOn_13) cl12 (by decide) rfl fk12_94 dX12_goesOn_14) (JX.ic (n := 1) rfl dX12_goesOn_17) dX12_goesOn_18) rfl (show 1 < 5 by decide) dX12_goesOn_19) (JS.seq (pc1 := 27) (JS.is (pc1 := 26) (k := 2) (JX.iald (pc1 := 24) (pc2 := 25) (JX.getR (pc1 := 21) (c := 12) (k := 22) (i := 78) (JX.al (k := 0) rfl dX12_goesOn_20) cl12 (by decide) rfl fk12_78 dX12_goesOn_21) (JX.il (k := 1) rfl dX12_goesOn_24) dX12_goesOn_25) rfl (show 2 < 5 by decide) dX12_goesOn_26) (JS.seq (pc1 := 32) (JS.is (pc1 := 31) (k := 3) (JX.call (pc1 := 28) decI_ok (JA.i (JX.il (k := 2) rfl dX12_goesOn_27) JA.nil) aX12_isTest (RunK.S (i := 326) (n := 1) (CN nX12_isTest (by decide) (by decide)) gw1642 gw1643 dX12_goesOn_28) (by decide)) rfl (show 3 < 5 by decide) dX12_goesOn_31) (JS.seq (pc1 := 188) (JS.iff (l := 188) (pc1 := 87) (CJ.and_f (pc1 := 42) (CJ.lt_f (tgt := 188) (pc1 := 38) (pc2 := 39) (JX.iald (pc1 := 36) (pc2 := 37) (JX.getR (pc1 := 33) (c := 12) (k := 23) (i := 81) (JX.al (k := 0) rfl dX12_goesOn_32) cl12 (by decide) rfl fk12_81 dX12_goesOn_33) (JX.il (k := 1) rfl dX12_goesOn_36) dX12_goesOn_37) (JX.ic (n := 2) rfl dX12_goesOn_38) dX12_goesOn_39 rfl) (CJ.or_f (l := 87) (pc1 := 78) (CJ.or_t (pc1 := 69) (CJ.or_t (pc1 := 60) (CJ.or_t (pc1 := 51) (CJ.ne0_t (tgt := 87) (pc1 := 48) (JX.call (pc1 := 45) decI_ok (JA.r (JX.al (k := 0) rfl dX12_goesOn_42) (JA.i (JX.bp (n := 43) kb43 dX12_goesOn_43) JA.nil)) aX12_isSign (RunK.V (i := 249) (c := 12) (n := 1) cl12 rfl (CN nX12_isSign (by decide) (by decide)) gw1596 gw1598 gs66 dX12_goesOn_45) (by decide)) dX12_goesOn_48 rfl) (CJ.ne0_t (tgt := 87) (pc1 := 57) (JX.call (pc1 := 54) decI_ok (JA.r (JX.al (k := 0) rfl dX12_goesOn_51) (JA.i (JX.bp (n := 45) kb45 dX12_goesOn_52) JA.nil)) aX12_isSign (RunK.V (i := 249) (c := 12) (n := 1) cl12 rfl (CN nX12_isSign (by decide) (by decide)) gw1596 gw1598 gs66 dX12_goesOn_54) (by decide)) dX12_goesOn_57 rfl)) (CJ.ne0_t (tgt := 87) (pc1 := 66) (JX.call (pc1 := 63) decI_ok (JA.r (JX.al (k := 0) rfl dX12_goesOn_60) (JA.i (JX.bp (n := 42) kb42 dX12_goesOn_61) JA.nil)) aX12_isSign (RunK.V (i := 249) (c := 12) (n := 1) cl12 rfl (CN nX12_isSign (by decide) (by decide)) gw1596 gw1598 gs66 dX12_goesOn_63) (by decide)) dX12_goesOn_66 rfl)) (CJ.ne0_t (tgt := 87) (pc1 := 75) (JX.call (pc1 := 72) decI_ok (JA.r (JX.al (k := 0) rfl dX12_goesOn_69) (JA.i (JX.bp (n := 47) kb47 dX12_goesOn_70) JA.nil)) aX12_isSign (RunK.V (i := 249) (c := 12) (n := 1) cl12 rfl (CN nX12_isSign (by decide) (by decide)) gw1596 gw1598 gs66 dX12_goesOn_72) (by decide)) dX12_goesOn_75 rfl)) (CJ.ne0_f (tgt := 188) (pc1 := 84) (JX.call (pc1 := 81) decI_ok (JA.r (JX.al (k := 0) rfl dX12_goesOn_78) (JA.i (JX.bp (n := 37) kb37 dX12_goesOn_79) JA.nil)) aX12_isSign (RunK.V (i := 249) (c := 12) (n := 1) cl12 rfl (CN nX12_isSign (by decide) (by decide)) gw1596 gw1598 gs66 dX12_goesOn_81) (by decide)) dX12_goesOn_84 rfl) (Or.inl rfl))) (JS.seq (pc1 := 115) (JS.call (pc1 := 112) (JA.r (JX.al (k := 0) rfl dX12_goesOn_87) (JA.i (JX.ite (l := 110) (pc1 := 106) (pc2 := 107) (pc3 := 112) (lend := 112) (CJ.or_f (l := 106) (pc1 := 97) (CJ.ne0_t (tgt := 106) (pc1 := 94) (JX.call (pc1 := 91) decI_ok (JA.r (JX.al (k := 0) rfl dX12_goesOn_88) (JA.i (JX.bp (n := 43) kb43 dX12_goesOn_89) JA.nil)) aX12_isSign (RunK.V (i := 249) (c := 12) (n := 1) cl12 rfl (CN nX12_isSign (by decide) (by decide)) gw1596 gw1598 gs66 dX12_goesOn_91) (by decide)) dX12_goesOn_94 rfl) (CJ.ne0_f (tgt := 110) (pc1 := 103) (JX.call (pc1 := 100) decI_ok (JA.r (JX.al (k := 0) rfl dX12_goesOn_97) (JA.i (JX.bp (n := 45) kb45 dX12_goesOn_98) JA.nil)) aX12_isSign (RunK.V (i := 249) (c := 12) (n := 1) cl12 rfl (CN nX12_isSign (by decide) (by decide)) gw1596 gw1598 gs66 dX12_goesOn_100) (by decide)) dX12_goesOn_103 rfl) (Or.inl rfl)) (JX.ic (n := 5) rfl dX12_goesOn_106) dX12_goesOn_107 rfl (JX.bp (n := 6) kb6 dX12_goesOn_110) (Or.inl rfl)) JA.nil)) aX12_joins (RunK.V (i := 339) (c := 12) (n := 1) cl12 rfl (CN nX12_joins (by decide) (by decide)) gw1675 gw1677 gs79 dX12_goesOn_112)) (JS.seq (pc1 := 177) (JS.call (pc1 := 174) (JA.r (JX.al (k := 0) rfl dX12_goesOn_115) (JA.i (JX.ite (l := 130) (pc1 := 125) (pc2 := 127) (pc3 := 174) (lend := 174) (CJ.ne0_f (tgt := 130) (pc1 := 122) (JX.call (pc1 := 119) decI_ok (JA.r (JX.al (k := 0) rfl dX12_goesOn_116) (JA.i (JX.bp (n := 43) kb43 dX12_goesOn_117) JA.nil)) aX12_isSign (RunK.V (i := 249) (c := 12) (n := 1) cl12 rfl (CN nX12_isSign (by decide) (by decide)) gw1596 gw1598 gs66 dX12_goesOn_119) (by decide)) dX12_goesOn_122 rfl) (JX.bp (n := 31) kb31 dX12_goesOn_125) dX12_goesOn_127 rfl (JX.ite (l := 144) (pc1 := 139) (pc2 := 141) (pc3 := 174) (lend := 174) (CJ.ne0_f (tgt := 144) (pc1 := 136) (JX.call (pc1 := 133) decI_ok (JA.r (JX.al (k := 0) rfl dX12_goesOn_130) (JA.i (JX.bp (n := 45) kb45 dX12_goesOn_131) JA.nil)) aX12_isSign (RunK.V (i := 249) (c := 12) (n := 1) cl12 rfl (CN nX12_isSign (by decide) (by decide)) gw1596 gw1598 gs66 dX12_goesOn_133) (by decide)) dX12_goesOn_136 rfl) (JX.bp (n := 32) kb32 dX12_goesOn_139) dX12_goesOn_141 rfl (JX.ite (l := 158) (pc1 := 153) (pc2 := 155) (pc3 := 174) (lend := 174) (CJ.ne0_f (tgt := 158) (pc1 := 150) (JX.call (pc1 := 147) decI_ok (JA.r (JX.al (k := 0) rfl dX12_goesOn_144) (JA.i (JX.bp (n := 42) kb42 dX12_goesOn_145) JA.nil)) aX12_isSign (RunK.V (i := 249) (c := 12) (n := 1) cl12 rfl (CN nX12_isSign (by decide) (by decide)) gw1596 gw1598 gs66 dX12_goesOn_147) (by decide)) dX12_goesOn_150 rfl) (JX.bp (n := 33) kb33 dX12_goesOn_153) dX12_goesOn_155 rfl (JX.ite (l := 172) (pc1 := 167) (pc2 := 169) (pc3 := 174) (lend := 174) (CJ.ne0_f (tgt := 172) (pc1 := 164) (JX.call (pc1 := 161) decI_ok (JA.r (JX.al (k := 0) rfl dX12_goesOn_158) (JA.i (JX.bp (n := 47) kb47 dX12_goesOn_159) JA.nil)) aX12_isSign (RunK.V (i := 249) (c := 12) (n := 1) cl12 rfl (CN nX12_isSign (by decide) (by decide)) gw1596 gw1598 gs66 dX12_goesOn_161) (by decide)) dX12_goesOn_164 rfl) (JX.bp (n := 34) kb34 dX12_goesOn_167) dX12_goesOn_169 rfl (JX.bp (n := 35) kb35 dX12_goesOn_172) (Or.inl rfl)) (Or.inl rfl)) (Or.inl rfl)) (Or.inl rfl)) JA.nil)) aX12_holdsBack (RunK.V (i := 333) (c := 12) (n := 1) cl12 rfl (CN nX12_holdsBack (by decide) (by decide)) gw1646 gw1648 gs75 dX12_goesOn_174)) (JS.seq (pc1 := 181) (JS.call (pc1 := 178) (JA.r (JX.al (k := 0) rfl dX12_goesOn_177) JA.nil) aX12_ahead (RunK.V (i := 252) (c := 12) (n := 0) cl12 rfl (CN nX12_ahead (by decide) (by decide)) gw1554 gw1556 gs58 dX12_goesOn_178)) (JS.seq (pc1 := 186) (JS.pZ (pc1 := 182) (pc2 := 183) (c := 12) (k := 31) (i := 106) (JX.al (k := 0) rfl dX12_goesOn_181) (JX.ic (n := 0) rfl dX12_goesOn_182) cl12 (by decide) rfl fk12_106 (Or.inl rfl) dX12_goesOn_183) (JS.retI (pc1 := 187) (JX.ic (n := 1) rfl dX12_goesOn_186) dX12_goesOn_187))))) (Or.inl rfl)) (JS.seq (pc1 := 285) (JS.iff (l := 285) (pc1 := 228) (CJ.and_f (pc1 := 201) (CJ.and_f (pc1 := 192) (CJ.ne0_f (tgt := 285) (pc1 := 189) (JX.il (k := 3) rfl dX12_goesOn_188) dX12_goesOn_189 rfl) (CJ.eq0_f (tgt := 285) (pc1 := 198) (JX.iald (pc1 := 196) (pc2 := 197) (JX.getR (pc1 := 193) (c := 12) (k := 23) (i := 81) (JX.al (k := 0) rfl dX12_goesOn_192) cl12 (by decide) rfl fk12_81 dX12_goesOn_193) (JX.il (k := 1) rfl dX12_goesOn_196) dX12_goesOn_197) dX12_goesOn_198 rfl)) (CJ.or_f (l := 228) (pc1 := 219) (CJ.or_t (pc1 := 210) (CJ.ne0_t (tgt := 228) (pc1 := 207) (JX.call (pc1 := 204) decI_ok (JA.r (JX.al (k := 0) rfl dX12_goesOn_201) (JA.i (JX.bp (n := 60) kb60 dX12_goesOn_202) JA.nil)) aX12_isSign (RunK.V (i := 249) (c := 12) (n := 1) cl12 rfl (CN nX12_isSign (by decide) (by decide)) gw1596 gw1598 gs66 dX12_goesOn_204) (by decide)) dX12_goesOn_207 rfl) (CJ.ne0_t (tgt := 228) (pc1 := 216) (JX.call (pc1 := 213) decI_ok (JA.r (JX.al (k := 0) rfl dX12_goesOn_210) (JA.i (JX.bp (n := 62) kb62 dX12_goesOn_211) JA.nil)) aX12_isSign (RunK.V (i := 249) (c := 12) (n := 1) cl12 rfl (CN nX12_isSign (by decide) (by decide)) gw1596 gw1598 gs66 dX12_goesOn_213) (by decide)) dX12_goesOn_216 rfl)) (CJ.ne0_f (tgt := 285) (pc1 := 225) (JX.call (pc1 := 222) decI_ok (JA.r (JX.al (k := 0) rfl dX12_goesOn_219) (JA.i (JX.bp (n := 61) kb61 dX12_goesOn_220) JA.nil)) aX12_isSign (RunK.V (i := 249) (c := 12) (n := 1) cl12 rfl (CN nX12_isSign (by decide) (by decide)) gw1596 gw1598 gs66 dX12_goesOn_222) (by decide)) dX12_goesOn_225 rfl) (Or.inl rfl))) (JS.seq (pc1 := 233) (JS.call (pc1 := 230) (JA.r (JX.al (k := 0) rfl dX12_goesOn_228) (JA.i (JX.ic (n := 5) rfl dX12_goesOn_229) JA.nil)) aX12_joins (RunK.V (i := 339) (c := 12) (n := 1) cl12 rfl (CN nX12_joins (by decide) (by decide)) gw1675 gw1677 gs79 dX12_goesOn_230)) (JS.seq (pc1 := 267) (JS.call (pc1 := 264) (JA.r (JX.al (k := 0) rfl dX12_goesOn_233) (JA.i (JX.ite (l := 248) (pc1 := 243) (pc2 := 245) (pc3 := 264) (lend := 264) (CJ.ne0_f (tgt := 248) (pc1 := 240) (JX.call (pc1 := 237) decI_ok (JA.r (JX.al (k := 0) rfl dX12_goesOn_234) (JA.i (JX.bp (n := 60) kb60 dX12_goesOn_235) JA.nil)) aX12_isSign (RunK.V (i := 249) (c := 12) (n := 1) cl12 rfl (CN nX12_isSign (by decide) (by decide)) gw1596 gw1598 gs66 dX12_goesOn_237) (by decide)) dX12_goesOn_240 rfl) (JX.bp (n := 38) kb38 dX12_goesOn_243) dX12_goesOn_245 rfl (JX.ite (l := 262) (pc1 := 257) (pc2 := 259) (pc3 := 264) (lend := 264) (CJ.ne0_f (tgt := 262) (pc1 := 254) (JX.call (pc1 := 251) decI_ok (JA.r (JX.al (k := 0) rfl dX12_goesOn_248) (JA.i (JX.bp (n := 62) kb62 dX12_goesOn_249) JA.nil)) aX12_isSign (RunK.V (i := 249) (c := 12) (n := 1) cl12 rfl (CN nX12_isSign (by decide) (by decide)) gw1596 gw1598 gs66 dX12_goesOn_251) (by decide)) dX12_goesOn_254 rfl) (JX.bp (n := 39) kb39 dX12_goesOn_257) dX12_goesOn_259 rfl (JX.bp (n := 40) kb40 dX12_goesOn_262) (Or.inl rfl)) (Or.inl rfl)) JA.nil)) aX12_holdsBack (RunK.V (i := 333) (c := 12) (n := 1) cl12 rfl (CN nX12_holdsBack (by decide) (by decide)) gw1646 gw1648 gs75 dX12_goesOn_264)) (JS.seq (pc1 := 274) (JS.ia (pc1 := 271) (pc2 := 272) (pc3 := 273) (JX.getR (pc1 := 268) (c := 12) (k := 23) (i := 81) (JX.al (k := 0) rfl dX12_goesOn_267) cl12 (by decide) rfl fk12_81 dX12_goesOn_268) (JX.il (k := 1) rfl dX12_goesOn_271) (JX.ic (n := 1) rfl dX12_goesOn_272) dX12_goesOn_273) (JS.seq (pc1 := 278) (JS.call (pc1 := 275) (JA.r (JX.al (k := 0) rfl dX12_goesOn_274) JA.nil) aX12_ahead (RunK.V (i := 252) (c := 12) (n := 0) cl12 rfl (CN nX12_ahead (by decide) (by decide)) gw1554 gw1556 gs58 dX12_goesOn_275)) (JS.seq (pc1 := 283) (JS.pZ (pc1 := 279) (pc2 := 280) (c := 12) (k := 31) (i := 106) (JX.al (k := 0) rfl dX12_goesOn_278) (JX.ic (n := 0) rfl dX12_goesOn_279) cl12 (by decide) rfl fk12_106 (Or.inl rfl) dX12_goesOn_280) (JS.retI (pc1 := 284) (JX.ic (n := 1) rfl dX12_goesOn_283) dX12_goesOn_284)))))) (Or.inl rfl)) (JS.seq (pc1 := 400) (JS.iff (l := 400) (pc1 := 309) (CJ.and_f (pc1 := 289) (CJ.ne0_f (tgt := 400) (pc1 := 286) (JX.il (k := 3) rfl dX12_goesOn_285) dX12_goesOn_286 rfl) (CJ.or_f (l := 309) (pc1 := 299) (CJ.ne0_t (tgt := 309) (pc1 := 296) (JX.call (pc1 := 293) decI_ok (JA.r (JX.al (k := 0) rfl dX12_goesOn_289) (JA.l (JX.ld2K (i := 303) (by decide) gw1682 dX12_goesOn_290) JA.nil)) aX12_isWord (RunK.V (i := 329) (c := 12) (n := 1) cl12 rfl (CN nX12_isWord (by decide) (by decide)) gw1581 gw1583 gs63 dX12_goesOn_293) (by decide)) dX12_goesOn_296 rfl) (CJ.ne0_f (tgt := 400) (pc1 := 306) (JX.call (pc1 := 303) decI_ok (JA.r (JX.al (k := 0) rfl dX12_goesOn_299) (JA.l (JX.ld2K (i := 301) (by decide) gw1683 dX12_goesOn_300) JA.nil)) aX12_isWord (RunK.V (i := 329) (c := 12) (n := 1) cl12 rfl (CN nX12_isWord (by decide) (by decide)) gw1581 gw1583 gs63 dX12_goesOn_303) (by decide)) dX12_goesOn_306 rfl) (Or.inl rfl))) (JS.sc (JS.seq (pc1 := 327) (JS.iff (l := 327) (pc1 := 318) (CJ.eq0_f (tgt := 327) (pc1 := 315) (JX.iald (pc1 := 313) (pc2 := 314) (JX.getR (pc1 := 310) (c := 12) (k := 23) (i := 81) (JX.al (k := 0) rfl dX12_goesOn_309) cl12 (by decide) rfl fk12_81 dX12_goesOn_310) (JX.il (k := 1) rfl dX12_goesOn_313) dX12_goesOn_314) dX12_goesOn_315 rfl) (JS.call (pc1 := 324) (JA.r (JX.al (k := 0) rfl dX12_goesOn_318) (JA.i (JX.ic (n := 1) rfl dX12_goesOn_319) (JA.i (JX.getI (pc1 := 321) (c := 12) (k := 4) (i := 23) (JX.al (k := 0) rfl dX12_goesOn_320) cl12 (by decide) rfl fk12_23 dX12_goesOn_321) JA.nil))) aX12_blame (RunK.V (i := 235) (c := 12) (n := 2) cl12 rfl (CN nX12_blame (by decide) (by decide)) gw1577 gw1579 gs62 dX12_goesOn_324)) (Or.inl rfl)) (JS.seq (pc1 := 336) (JS.iff (l := 336) (pc1 := 334) (CJ.gt0_f (tgt := 336) (pc1 := 331) (JX.getI (pc1 := 328) (c := 12) (k := 8) (i := 36) (JX.al (k := 0) rfl dX12_goesOn_327) cl12 (by decide) rfl fk12_36 dX12_goesOn_328) dX12_goesOn_331 rfl) (JS.retI (pc1 := 335) (JX.ic (n := 0) rfl dX12_goesOn_334) dX12_goesOn_335) (Or.inl rfl)) (JS.seq (pc1 := 345) (JS.is2 (pc1 := 343) (JX.call (pc1 := 340) decI_ok (JA.r (JX.al (k := 0) rfl dX12_goesOn_336) (JA.l (JX.ld2K (i := 303) (by decide) gw1682 dX12_goesOn_337) JA.nil)) aX12_isWord (RunK.V (i := 329) (c := 12) (n := 1) cl12 rfl (CN nX12_isWord (by decide) (by decide)) gw1581 gw1583 gs63 dX12_goesOn_340) (by decide)) (show 4 < 5 by decide) dX12_goesOn_343) (JS.seq (pc1 := 359) (JS.call (pc1 := 356) (JA.r (JX.al (k := 0) rfl dX12_goesOn_345) (JA.i (JX.ite (l := 355) (pc1 := 351) (pc2 := 352) (pc3 := 356) (lend := 356) (CJ.ne0_f (tgt := 355) (pc1 := 348) (JX.il2 dX12_goesOn_346) dX12_goesOn_348 rfl) (JX.ic (n := 2) rfl dX12_goesOn_351) dX12_goesOn_352 rfl (JX.ic (n := 1) rfl dX12_goesOn_355) (Or.inl rfl)) JA.nil)) aX12_joins (RunK.V (i := 339) (c := 12) (n := 1) cl12 rfl (CN nX12_joins (by decide) (by decide)) gw1675 gw1677 gs79 dX12_goesOn_356)) (JS.seq (pc1 := 375) (JS.call (pc1 := 372) (JA.r (JX.al (k := 0) rfl dX12_goesOn_359) (JA.i (JX.ite (l := 370) (pc1 := 365) (pc2 := 367) (pc3 := 372) (lend := 372) (CJ.ne0_f (tgt := 370) (pc1 := 362) (JX.il2 dX12_goesOn_360) dX12_goesOn_362 rfl) (JX.bp (n := 41) kb41 dX12_goesOn_365) dX12_goesOn_367 rfl (JX.bp (n := 42) kb42 dX12_goesOn_370) (Or.inl rfl)) JA.nil)) aX12_holdsBack (RunK.V (i := 333) (c := 12) (n := 1) cl12 rfl (CN nX12_holdsBack (by decide) (by decide)) gw1646 gw1648 gs75 dX12_goesOn_372)) (JS.seq (pc1 := 382) (JS.ia (pc1 := 379) (pc2 := 380) (pc3 := 381) (JX.getR (pc1 := 376) (c := 12) (k := 23) (i := 81) (JX.al (k := 0) rfl dX12_goesOn_375) cl12 (by decide) rfl fk12_81 dX12_goesOn_376) (JX.il (k := 1) rfl dX12_goesOn_379) (JX.ic (n := 0) rfl dX12_goesOn_380) dX12_goesOn_381) (JS.seq (pc1 := 389) (JS.za (pc1 := 386) (pc2 := 387) (pc3 := 388) (JX.getR (pc1 := 383) (c := 12) (k := 24) (i := 84) (JX.al (k := 0) rfl dX12_goesOn_382) cl12 (by decide) rfl fk12_84 dX12_goesOn_383) (JX.il (k := 1) rfl dX12_goesOn_386) (JX.ic (n := 1) rfl dX12_goesOn_387) dX12_goesOn_388) (JS.seq (pc1 := 393) (JS.call (pc1 := 390) (JA.r (JX.al (k := 0) rfl dX12_goesOn_389) JA.nil) aX12_ahead (RunK.V (i := 252) (c := 12) (n := 0) cl12 rfl (CN nX12_ahead (by decide) (by decide)) gw1554 gw1556 gs58 dX12_goesOn_390)) (JS.seq (pc1 := 398) (JS.pZ (pc1 := 394) (pc2 := 395) (c := 12) (k := 31) (i := 106) (JX.al (k := 0) rfl dX12_goesOn_393) (JX.ic (n := 0) rfl dX12_goesOn_394) cl12 (by decide) rfl fk12_106 (Or.inl rfl) dX12_goesOn_395) (JS.retI (pc1 := 399) (JX.ic (n := 1) rfl dX12_goesOn_398) dX12_goesOn_399))))))))))) (Or.inl rfl)) (JS.seq (pc1 := 422) (JS.iff (l := 422) (pc1 := 413) (CJ.and_f (pc1 := 404) (CJ.ne0_f (tgt := 422) (pc1 := 401) (JX.il (k := 3) rfl dX12_goesOn_400) dX12_goesOn_401 rfl) (CJ.eq0_f (tgt := 422) (pc1 := 410) (JX.iald (pc1 := 408) (pc2 := 409) (JX.getR (pc1 := 405) (c := 12) (k := 23) (i := 81) (JX.al (k := 0) rfl dX12_goesOn_404) cl12 (by decide) rfl fk12_81 dX12_goesOn_405) (JX.il (k := 1) rfl dX12_goesOn_408) dX12_goesOn_409) dX12_goesOn_410 rfl)) (JS.call (pc1 := 419) (JA.r (JX.al (k := 0) rfl dX12_goesOn_413) (JA.i (JX.ic (n := 1) rfl dX12_goesOn_414) (JA.i (JX.getI (pc1 := 416) (c := 12) (k := 4) (i := 23) (JX.al (k := 0) rfl dX12_goesOn_415) cl12 (by decide) rfl fk12_23 dX12_goesOn_416) JA.nil))) aX12_blame (RunK.V (i := 235) (c := 12) (n := 2) cl12 rfl (CN nX12_blame (by decide) (by decide)) gw1577 gw1579 gs62 dX12_goesOn_419)) (Or.inl rfl)) (JS.seq (pc1 := 441) (JS.iff (l := 441) (pc1 := 427) (CJ.lt_f (tgt := 441) (pc1 := 423) (pc2 := 424) (JX.il (k := 2) rfl dX12_goesOn_422) (JX.ic (n := 2) rfl dX12_goesOn_423) dX12_goesOn_424 rfl) (JS.seq (pc1 := 439) (JS.iff (l := 439) (pc1 := 434) (CJ.eq0_f (tgt := 439) (pc1 := 431) (JX.getI (pc1 := 428) (c := 12) (k := 8) (i := 36) (JX.al (k := 0) rfl dX12_goesOn_427) cl12 (by decide) rfl fk12_36 dX12_goesOn_428) dX12_goesOn_431 rfl) (JS.call (pc1 := 436) (JA.r (JX.al (k := 0) rfl dX12_goesOn_434) (JA.i (JX.ic (n := 1) rfl dX12_goesOn_435) JA.nil)) aX12_joins (RunK.V (i := 339) (c := 12) (n := 1) cl12 rfl (CN nX12_joins (by decide) (by decide)) gw1675 gw1677 gs79 dX12_goesOn_436)) (Or.inl rfl)) (JS.retI (pc1 := 440) (JX.ic (n := 0) rfl dX12_goesOn_439) dX12_goesOn_440)) (Or.inl rfl)) (JS.seq (pc1 := 518) (JS.iff (l := 518) (pc1 := 452) (CJ.or_f (l := 452) (pc1 := 446) (CJ.eq_t (tgt := 452) (pc1 := 442) (pc2 := 443) (JX.il (k := 2) rfl dX12_goesOn_441) (JX.ic (n := 3) rfl dX12_goesOn_442) dX12_goesOn_443 rfl) (CJ.eq_f (tgt := 518) (pc1 := 447) (pc2 := 449) (JX.il (k := 2) rfl dX12_goesOn_446) (JX.bp (n := 6) kb6 dX12_goesOn_447) dX12_goesOn_449 rfl) (Or.inl rfl)) (JS.seq (pc1 := 470) (JS.iff (l := 470) (pc1 := 461) (CJ.not_f (CJ.ne0_t (tgt := 470) (pc1 := 458) (JX.call (pc1 := 455) decI_ok (JA.r (JX.al (k := 0) rfl dX12_goesOn_452) (JA.i (JX.bp (n := 44) kb44 dX12_goesOn_453) JA.nil)) aX12_isSign (RunK.V (i := 249) (c := 12) (n := 1) cl12 rfl (CN nX12_isSign (by decide) (by decide)) gw1596 gw1598 gs66 dX12_goesOn_455) (by decide)) dX12_goesOn_458 rfl)) (JS.call (pc1 := 467) (JA.r (JX.al (k := 0) rfl dX12_goesOn_461) (JA.i (JX.ic (n := 1) rfl dX12_goesOn_462) (JA.i (JX.getI (pc1 := 464) (c := 12) (k := 4) (i := 23) (JX.al (k := 0) rfl dX12_goesOn_463) cl12 (by decide) rfl fk12_23 dX12_goesOn_464) JA.nil))) aX12_blame (RunK.V (i := 235) (c := 12) (n := 2) cl12 rfl (CN nX12_blame (by decide) (by decide)) gw1577 gw1579 gs62 dX12_goesOn_467)) (Or.inl rfl)) (JS.seq (pc1 := 479) (JS.iff (l := 479) (pc1 := 477) (CJ.gt0_f (tgt := 479) (pc1 := 474) (JX.getI (pc1 := 471) (c := 12) (k := 8) (i := 36) (JX.al (k := 0) rfl dX12_goesOn_470) cl12 (by decide) rfl fk12_36 dX12_goesOn_471) dX12_goesOn_474 rfl) (JS.retI (pc1 := 478) (JX.ic (n := 0) rfl dX12_goesOn_477) dX12_goesOn_478) (Or.inl rfl)) (JS.seq (pc1 := 484) (JS.call (pc1 := 481) (JA.r (JX.al (k := 0) rfl dX12_goesOn_479) (JA.i (JX.ic (n := 1) rfl dX12_goesOn_480) JA.nil)) aX12_joins (RunK.V (i := 339) (c := 12) (n := 1) cl12 rfl (CN nX12_joins (by decide) (by decide)) gw1675 gw1677 gs79 dX12_goesOn_481)) (JS.seq (pc1 := 500) (JS.ia (pc1 := 488) (pc2 := 489) (pc3 := 499) (JX.getR (pc1 := 485) (c := 12) (k := 22) (i := 78) (JX.al (k := 0) rfl dX12_goesOn_484) cl12 (by decide) rfl fk12_78 dX12_goesOn_485) (JX.il (k := 1) rfl dX12_goesOn_488) (JX.ite (l := 498) (pc1 := 494) (pc2 := 495) (pc3 := 499) (lend := 499) (CJ.eq_f (tgt := 498) (pc1 := 490) (pc2 := 491) (JX.il (k := 2) rfl dX12_goesOn_489) (JX.ic (n := 3) rfl dX12_goesOn_490) dX12_goesOn_491 rfl) (JX.ic (n := 4) rfl dX12_goesOn_494) dX12_goesOn_495 rfl (JX.ic (n := 3) rfl dX12_goesOn_498) (Or.inl rfl)) dX12_goesOn_499) (JS.seq (pc1 := 507) (JS.ia (pc1 := 504) (pc2 := 505) (pc3 := 506) (JX.getR (pc1 := 501) (c := 12) (k := 23) (i := 81) (JX.al (k := 0) rfl dX12_goesOn_500) cl12 (by decide) rfl fk12_81 dX12_goesOn_501) (JX.il (k := 1) rfl dX12_goesOn_504) (JX.ic (n := 0) rfl dX12_goesOn_505) dX12_goesOn_506) (JS.seq (pc1 := 511) (JS.call (pc1 := 508) (JA.r (JX.al (k := 0) rfl dX12_goesOn_507) JA.nil) aX12_ahead (RunK.V (i := 252) (c := 12) (n := 0) cl12 rfl (CN nX12_ahead (by decide) (by decide)) gw1554 gw1556 gs58 dX12_goesOn_508)) (JS.seq (pc1 := 516) (JS.pZ (pc1 := 512) (pc2 := 513) (c := 12) (k := 31) (i := 106) (JX.al (k := 0) rfl dX12_goesOn_511) (JX.ic (n := 0) rfl dX12_goesOn_512) cl12 (by decide) rfl fk12_106 (Or.inl rfl) dX12_goesOn_513) (JS.retI (pc1 := 517) (JX.ic (n := 1) rfl dX12_goesOn_516) dX12_goesOn_517)))))))) (Or.inl rfl)) (JS.seq (pc1 := 546) (JS.iff (l := 546) (pc1 := 537) (CJ.not_f (CJ.ne0_t (tgt := 546) (pc1 := 534) (JX.call (pc1 := 531) decI_ok (JA.r (JX.al (k := 0) rfl dX12_goesOn_518) (JA.i (JX.ite (l := 529) (pc1 := 524) (pc2 := 526) (pc3 := 531) (lend := 531) (CJ.eq_f (tgt := 529) (pc1 := 520) (pc2 := 521) (JX.il (k := 2) rfl dX12_goesOn_519) (JX.ic (n := 5) rfl dX12_goesOn_520) dX12_goesOn_521 rfl) (JX.bp (n := 93) kb93 dX12_goesOn_524) dX12_goesOn_526 rfl (JX.bp (n := 41) kb41 dX12_goesOn_529) (Or.inl rfl)) JA.nil)) aX12_isSign (RunK.V (i := 249) (c := 12) (n := 1) cl12 rfl (CN nX12_isSign (by decide) (by decide)) gw1596 gw1598 gs66 dX12_goesOn_531) (by decide)) dX12_goesOn_534 rfl)) (JS.call (pc1 := 543) (JA.r (JX.al (k := 0) rfl dX12_goesOn_537) (JA.i (JX.ic (n := 1) rfl dX12_goesOn_538) (JA.i (JX.getI (pc1 := 540) (c := 12) (k := 4) (i := 23) (JX.al (k := 0) rfl dX12_goesOn_539) cl12 (by decide) rfl fk12_23 dX12_goesOn_540) JA.nil))) aX12_blame (RunK.V (i := 235) (c := 12) (n := 2) cl12 rfl (CN nX12_blame (by decide) (by decide)) gw1577 gw1579 gs62 dX12_goesOn_543)) (Or.inl rfl)) (JS.seq (pc1 := 555) (JS.iff (l := 555) (pc1 := 553) (CJ.gt0_f (tgt := 555) (pc1 := 550) (JX.getI (pc1 := 547) (c := 12) (k := 8) (i := 36) (JX.al (k := 0) rfl dX12_goesOn_546) cl12 (by decide) rfl fk12_36 dX12_goesOn_547) dX12_goesOn_550 rfl) (JS.retI (pc1 := 554) (JX.ic (n := 0) rfl dX12_goesOn_553) dX12_goesOn_554) (Or.inl rfl)) (JS.seq (pc1 := 560) (JS.call (pc1 := 557) (JA.r (JX.al (k := 0) rfl dX12_goesOn_555) (JA.i (JX.ic (n := 1) rfl dX12_goesOn_556) JA.nil)) aX12_joins (RunK.V (i := 339) (c := 12) (n := 1) cl12 rfl (CN nX12_joins (by decide) (by decide)) gw1675 gw1677 gs79 dX12_goesOn_557)) (JS.seq (pc1 := 570) (JS.upS (pc1 := 561) (pc2 := 566) (c := 12) (k := 27) (i := 94) (JX.al (k := 0) rfl dX12_goesOn_560) dX12_goesOn_561 cl12 (by decide) rfl fk12_94 (Or.inl rfl) dX12_goesOn_562 (JX.ic (n := 1) rfl dX12_goesOn_565) dX12_goesOn_566 dX12_goesOn_567) (JS.seq (pc1 := 580) (JS.upS (pc1 := 571) (pc2 := 576) (c := 12) (k := 28) (i := 97) (JX.al (k := 0) rfl dX12_goesOn_570) dX12_goesOn_571 cl12 (by decide) rfl fk12_97 (Or.inl rfl) dX12_goesOn_572 (JX.ic (n := 1) rfl dX12_goesOn_575) dX12_goesOn_576 dX12_goesOn_577) (JS.seq (pc1 := 596) (JS.iff (l := 596) (pc1 := 585) (CJ.eq_f (tgt := 596) (pc1 := 581) (pc2 := 582) (JX.il (k := 2) rfl dX12_goesOn_580) (JX.ic (n := 4) rfl dX12_goesOn_581) dX12_goesOn_582 rfl) (JS.call (pc1 := 593) (JA.r (JX.al (k := 0) rfl dX12_goesOn_585) (JA.i (JX.iald (pc1 := 590) (pc2 := 591) (JX.getR (pc1 := 587) (c := 12) (k := 25) (i := 88) (JX.al (k := 0) rfl dX12_goesOn_586) cl12 (by decide) rfl fk12_88 dX12_goesOn_587) (JX.il (k := 1) rfl dX12_goesOn_590) dX12_goesOn_591) (JA.i (JX.ic (n := 0) rfl dX12_goesOn_592) JA.nil))) aX12_add (RunK.V (i := 320) (c := 12) (n := 2) cl12 rfl (CN nX12_add (by decide) (by decide)) gw1655 gw1657 gs77 dX12_goesOn_593)) (Or.inl rfl)) (JS.seq (pc1 := 613) (JS.iff (l := 613) (pc1 := 601) (CJ.eq_f (tgt := 613) (pc1 := 597) (pc2 := 598) (JX.il (k := 2) rfl dX12_goesOn_596) (JX.ic (n := 5) rfl dX12_goesOn_597) dX12_goesOn_598 rfl) (JS.ia (pc1 := 605) (pc2 := 611) (pc3 := 612) (JX.getR (pc1 := 602) (c := 12) (k := 23) (i := 81) (JX.al (k := 0) rfl dX12_goesOn_601) cl12 (by decide) rfl fk12_81 dX12_goesOn_602) (JX.isub (pc1 := 609) (pc2 := 610) (JX.getI (pc1 := 606) (c := 12) (k := 27) (i := 94) (JX.al (k := 0) rfl dX12_goesOn_605) cl12 (by decide) rfl fk12_94 dX12_goesOn_606) (JX.ic (n := 1) rfl dX12_goesOn_609) dX12_goesOn_610) (JX.ic (n := 2) rfl dX12_goesOn_611) dX12_goesOn_612) (Or.inl rfl)) (JS.seq (pc1 := 617) (JS.call (pc1 := 614) (JA.r (JX.al (k := 0) rfl dX12_goesOn_613) JA.nil) aX12_ahead (RunK.V (i := 252) (c := 12) (n := 0) cl12 rfl (CN nX12_ahead (by decide) (by decide)) gw1554 gw1556 gs58 dX12_goesOn_614)) (JS.retI (pc1 := 618) (JX.ic (n := 1) rfl dX12_goesOn_617) dX12_goesOn_618))))))))))))))))))))
def mX12_goesOn : MS := runM 5 (some (.boolean)) bX12_goesOn
theorem aX12_goesOn : MA yX12_goesOn cX12_goesOn 5 (some (.boolean)) 3 mX12_goesOn := MA.of (plainFor_of_name (by decide)) jX12_goesOn
theorem eX12_goesOn (a0 : Nat) (h : AH) : mX12_goesOn [.ref a0] h = (bX12_goesOn [.val (.ref a0), .unset, .unset, .unset, .unset] h).bind (finM (some (.boolean))) := rfl
