/-! ===== by program: mk20.py: methods ===== -/
/-! Reader.goOn -/
theorem dX4_goOn_0 : decode cX4_goOn 0 = .ok (.aload_n 0, 1) := by decide +kernel
theorem dX4_goOn_1 : decode cX4_goOn 1 = .ok (.dup, 1) := by decide +kernel
theorem dX4_goOn_2 : decode cX4_goOn 2 = .ok (.getfield 27, 3) := by decide +kernel
theorem dX4_goOn_5 : decode cX4_goOn 5 = .ok (.iconst 1, 1) := by decide +kernel
theorem dX4_goOn_6 : decode cX4_goOn 6 = .ok (.iadd, 1) := by decide +kernel
theorem dX4_goOn_7 : decode cX4_goOn 7 = .ok (.putfield 27, 3) := by decide +kernel
theorem dX4_goOn_10 : decode cX4_goOn 10 = .ok (.aload_n 0, 1) := by decide +kernel
theorem dX4_goOn_11 : decode cX4_goOn 11 = .ok (.aload_n 0, 1) := by decide +kernel
theorem dX4_goOn_12 : decode cX4_goOn 12 = .ok (.getfield 18, 3) := by decide +kernel
theorem dX4_goOn_15 : decode cX4_goOn 15 = .ok (.aload_n 0, 1) := by decide +kernel
theorem dX4_goOn_16 : decode cX4_goOn 16 = .ok (.getfield 27, 3) := by decide +kernel
theorem dX4_goOn_19 : decode cX4_goOn 19 = .ok (.invokevirtual 108, 3) := by decide +kernel
theorem dX4_goOn_22 : decode cX4_goOn 22 = .ok (.putfield 31, 3) := by decide +kernel
theorem dX4_goOn_25 : decode cX4_goOn 25 = .ok (.aload_n 0, 1) := by decide +kernel
theorem dX4_goOn_26 : decode cX4_goOn 26 = .ok (.aload_n 0, 1) := by decide +kernel
theorem dX4_goOn_27 : decode cX4_goOn 27 = .ok (.getfield 21, 3) := by decide +kernel
theorem dX4_goOn_30 : decode cX4_goOn 30 = .ok (.aload_n 0, 1) := by decide +kernel
theorem dX4_goOn_31 : decode cX4_goOn 31 = .ok (.getfield 27, 3) := by decide +kernel
theorem dX4_goOn_34 : decode cX4_goOn 34 = .ok (.invokevirtual 108, 3) := by decide +kernel
theorem dX4_goOn_37 : decode cX4_goOn 37 = .ok (.putfield 34, 3) := by decide +kernel
theorem dX4_goOn_40 : decode cX4_goOn 40 = .ok (.aload_n 0, 1) := by decide +kernel
theorem dX4_goOn_41 : decode cX4_goOn 41 = .ok (.aload_n 0, 1) := by decide +kernel
theorem dX4_goOn_42 : decode cX4_goOn 42 = .ok (.getfield 24, 3) := by decide +kernel
theorem dX4_goOn_45 : decode cX4_goOn 45 = .ok (.aload_n 0, 1) := by decide +kernel
theorem dX4_goOn_46 : decode cX4_goOn 46 = .ok (.getfield 27, 3) := by decide +kernel
theorem dX4_goOn_49 : decode cX4_goOn 49 = .ok (.invokevirtual 108, 3) := by decide +kernel
theorem dX4_goOn_52 : decode cX4_goOn 52 = .ok (.putfield 37, 3) := by decide +kernel
theorem dX4_goOn_55 : decode cX4_goOn 55 = .ok (.return_, 1) := by decide +kernel
abbrev MX4_goOn : MI := (RX4, cX4_goOn, 1, 2, false)
def bX4_goOn : St := (seqS (updI 4 4 (fun x y => x + y) (lvR 0) (ciI (iI 1))) (seqS (putI 4 5 (lvR 0) (calX decI (ckV 5 1) mX5_at (agC va_rf (getR 4 1 (lvR 0)) (agC Value.int (getI 4 4 (lvR 0)) agN)))) (seqS (putI 4 6 (lvR 0) (calX decI (ckV 5 1) mX5_at (agC va_rf (getR 4 2 (lvR 0)) (agC Value.int (getI 4 4 (lvR 0)) agN)))) (seqS (putI 4 7 (lvR 0) (calX decI (ckV 5 1) mX5_at (agC va_rf (getR 4 3 (lvR 0)) (agC Value.int (getI 4 4 (lvR 0)) agN)))) retV))))
theorem jX4_goOn : JS MX4_goOn 0 0 0 56 [] bX4_goOn :=
  (JS.seq (pc1 := 10) (JS.upA (pc1 := 1) (pc2 := 6) (c := 4) (k := 4) (i := 27) (JX.al (k := 0) rfl dX4_goOn_0) dX4_goOn_1 cl4 (by decide) rfl fk4_27 (Or.inl rfl) dX4_goOn_2 (JX.ic (n := 1) rfl dX4_goOn_5) dX4_goOn_6 dX4_goOn_7) (JS.seq (pc1 := 25) (JS.pI (pc1 := 11) (pc2 := 22) (c := 4) (k := 5) (i := 31) (JX.al (k := 0) rfl dX4_goOn_10) (JX.call (pc1 := 19) decI_ok (JA.r (JX.getR (pc1 := 12) (c := 4) (k := 1) (i := 18) (JX.al (k := 0) rfl dX4_goOn_11) cl4 (by decide) rfl fk4_18 dX4_goOn_12) (JA.i (JX.getI (pc1 := 16) (c := 4) (k := 4) (i := 27) (JX.al (k := 0) rfl dX4_goOn_15) cl4 (by decide) rfl fk4_27 dX4_goOn_16) JA.nil)) aX5_at (RunK.V (i := 108) (c := 5) (n := 1) cl5 rfl (CN nX5_at (by decide) (by decide)) gw629 gw595 gw596 dX4_goOn_19) (by decide)) cl4 (by decide) rfl fk4_31 (Or.inl rfl) dX4_goOn_22) (JS.seq (pc1 := 40) (JS.pI (pc1 := 26) (pc2 := 37) (c := 4) (k := 6) (i := 34) (JX.al (k := 0) rfl dX4_goOn_25) (JX.call (pc1 := 34) decI_ok (JA.r (JX.getR (pc1 := 27) (c := 4) (k := 2) (i := 21) (JX.al (k := 0) rfl dX4_goOn_26) cl4 (by decide) rfl fk4_21 dX4_goOn_27) (JA.i (JX.getI (pc1 := 31) (c := 4) (k := 4) (i := 27) (JX.al (k := 0) rfl dX4_goOn_30) cl4 (by decide) rfl fk4_27 dX4_goOn_31) JA.nil)) aX5_at (RunK.V (i := 108) (c := 5) (n := 1) cl5 rfl (CN nX5_at (by decide) (by decide)) gw629 gw595 gw596 dX4_goOn_34) (by decide)) cl4 (by decide) rfl fk4_34 (Or.inl rfl) dX4_goOn_37) (JS.seq (pc1 := 55) (JS.pI (pc1 := 41) (pc2 := 52) (c := 4) (k := 7) (i := 37) (JX.al (k := 0) rfl dX4_goOn_40) (JX.call (pc1 := 49) decI_ok (JA.r (JX.getR (pc1 := 42) (c := 4) (k := 3) (i := 24) (JX.al (k := 0) rfl dX4_goOn_41) cl4 (by decide) rfl fk4_24 dX4_goOn_42) (JA.i (JX.getI (pc1 := 46) (c := 4) (k := 4) (i := 27) (JX.al (k := 0) rfl dX4_goOn_45) cl4 (by decide) rfl fk4_27 dX4_goOn_46) JA.nil)) aX5_at (RunK.V (i := 108) (c := 5) (n := 1) cl5 rfl (CN nX5_at (by decide) (by decide)) gw629 gw595 gw596 dX4_goOn_49) (by decide)) cl4 (by decide) rfl fk4_37 (Or.inl rfl) dX4_goOn_52) (JS.retV dX4_goOn_55)))))
def mX4_goOn : MS := runM 1 none bX4_goOn
theorem aX4_goOn : MA yX4_goOn cX4_goOn 1 none 2 mX4_goOn := MA.of (plainFor_of_name (by decide)) jX4_goOn
theorem eX4_goOn (a0 : Nat) (h : AH) : mX4_goOn [.ref a0] h = (bX4_goOn [.val (.ref a0)] h).bind (finM none) := rfl
/-! Reader.fails -/
theorem dX4_fails_0 : decode cX4_fails 0 = .ok (.aload_n 0, 1) := by decide +kernel
theorem dX4_fails_1 : decode cX4_fails 1 = .ok (.iload_n 1, 1) := by decide +kernel
theorem dX4_fails_2 : decode cX4_fails 2 = .ok (.putfield 53, 3) := by decide +kernel
theorem dX4_fails_5 : decode cX4_fails 5 = .ok (.aload_n 0, 1) := by decide +kernel
theorem dX4_fails_6 : decode cX4_fails 6 = .ok (.iload_n 2, 1) := by decide +kernel
theorem dX4_fails_7 : decode cX4_fails 7 = .ok (.putfield 56, 3) := by decide +kernel
theorem dX4_fails_10 : decode cX4_fails 10 = .ok (.iconst 0, 1) := by decide +kernel
theorem dX4_fails_11 : decode cX4_fails 11 = .ok (.ireturn, 1) := by decide +kernel
abbrev MX4_fails : MI := (RX4, cX4_fails, 3, 1, false)
def bX4_fails : St := (seqS (putI 4 11 (lvR 0) (lvI 1)) (seqS (putI 4 12 (lvR 0) (lvI 2)) (retI (ciI (iI 0)))))
theorem jX4_fails : JS MX4_fails 0 0 0 12 [] bX4_fails :=
  (JS.seq (pc1 := 5) (JS.pI (pc1 := 1) (pc2 := 2) (c := 4) (k := 11) (i := 53) (JX.al (k := 0) rfl dX4_fails_0) (JX.il (k := 1) rfl dX4_fails_1) cl4 (by decide) rfl fk4_53 (Or.inl rfl) dX4_fails_2) (JS.seq (pc1 := 10) (JS.pI (pc1 := 6) (pc2 := 7) (c := 4) (k := 12) (i := 56) (JX.al (k := 0) rfl dX4_fails_5) (JX.il (k := 2) rfl dX4_fails_6) cl4 (by decide) rfl fk4_56 (Or.inl rfl) dX4_fails_7) (JS.retI (pc1 := 11) (JX.ic (n := 0) rfl dX4_fails_10) dX4_fails_11)))
def mX4_fails : MS := runM 3 (some (.boolean)) bX4_fails
theorem aX4_fails : MA yX4_fails cX4_fails 3 (some (.boolean)) 1 mX4_fails := MA.of (plainFor_of_name (by decide)) jX4_fails
theorem eX4_fails (a0 : Nat) (a1 : Int32) (a2 : Int32) (h : AH) : mX4_fails [.ref a0, .int a1, .int a2] h = (bX4_fails [.val (.ref a0), .val (.int a1), .val (.int a2)] h).bind (finM (some (.boolean))) := rfl
/-! Reader.isWrong -/
theorem dX4_isWrong_0 : decode cX4_isWrong 0 = .ok (.aload_n 0, 1) := by decide +kernel
theorem dX4_isWrong_1 : decode cX4_isWrong 1 = .ok (.iconst 1, 1) := by decide +kernel
theorem dX4_isWrong_2 : decode cX4_isWrong 2 = .ok (.aload_n 0, 1) := by decide +kernel
theorem dX4_isWrong_3 : decode cX4_isWrong 3 = .ok (.getfield 31, 3) := by decide +kernel
theorem dX4_isWrong_6 : decode cX4_isWrong 6 = .ok (.iconst 4, 1) := by decide +kernel
theorem dX4_isWrong_7 : decode cX4_isWrong 7 = .ok (.if_icmp .ne 10, 3) := by decide +kernel
theorem dX4_isWrong_10 : decode cX4_isWrong 10 = .ok (.aload_n 0, 1) := by decide +kernel
theorem dX4_isWrong_11 : decode cX4_isWrong 11 = .ok (.getfield 34, 3) := by decide +kernel
theorem dX4_isWrong_14 : decode cX4_isWrong 14 = .ok (.goto 7, 3) := by decide +kernel
theorem dX4_isWrong_17 : decode cX4_isWrong 17 = .ok (.aload_n 0, 1) := by decide +kernel
theorem dX4_isWrong_18 : decode cX4_isWrong 18 = .ok (.getfield 37, 3) := by decide +kernel
theorem dX4_isWrong_21 : decode cX4_isWrong 21 = .ok (.invokevirtual 136, 3) := by decide +kernel
theorem dX4_isWrong_24 : decode cX4_isWrong 24 = .ok (.ireturn, 1) := by decide +kernel
abbrev MX4_isWrong : MI := (RX4, cX4_isWrong, 1, 2, false)
def bX4_isWrong : St := (retI (calX decI (ckV 4 2) mX4_fails (agC va_rf (lvR 0) (agC Value.int (ciI (iI 1)) (agC Value.int (iteX (eqI (getI 4 5 (lvR 0)) (ciI (iI 4))) (getI 4 6 (lvR 0)) (getI 4 7 (lvR 0))) agN)))))
theorem jX4_isWrong : JS MX4_isWrong 0 0 0 25 [] bX4_isWrong :=
  (JS.retI (pc1 := 24) (JX.call (pc1 := 21) decI_ok (JA.r (JX.al (k := 0) rfl dX4_isWrong_0) (JA.i (JX.ic (n := 1) rfl dX4_isWrong_1) (JA.i (JX.ite (l := 17) (pc1 := 10) (pc2 := 14) (pc3 := 21) (lend := 21) (CJ.eq_f (tgt := 17) (pc1 := 6) (pc2 := 7) (JX.getI (pc1 := 3) (c := 4) (k := 5) (i := 31) (JX.al (k := 0) rfl dX4_isWrong_2) cl4 (by decide) rfl fk4_31 dX4_isWrong_3) (JX.ic (n := 4) rfl dX4_isWrong_6) dX4_isWrong_7 rfl) (JX.getI (pc1 := 11) (c := 4) (k := 6) (i := 34) (JX.al (k := 0) rfl dX4_isWrong_10) cl4 (by decide) rfl fk4_34 dX4_isWrong_11) dX4_isWrong_14 rfl (JX.getI (pc1 := 18) (c := 4) (k := 7) (i := 37) (JX.al (k := 0) rfl dX4_isWrong_17) cl4 (by decide) rfl fk4_37 dX4_isWrong_18) (Or.inl rfl)) JA.nil))) aX4_fails (RunK.V (i := 136) (c := 4) (n := 2) cl4 rfl (CN nX4_fails (by decide) (by decide)) gw666 gw668 gs10 dX4_isWrong_21) (by decide)) dX4_isWrong_24)
def mX4_isWrong : MS := runM 1 (some (.boolean)) bX4_isWrong
theorem aX4_isWrong : MA yX4_isWrong cX4_isWrong 1 (some (.boolean)) 2 mX4_isWrong := MA.of (plainFor_of_name (by decide)) jX4_isWrong
theorem eX4_isWrong (a0 : Nat) (h : AH) : mX4_isWrong [.ref a0] h = (bX4_isWrong [.val (.ref a0)] h).bind (finM (some (.boolean))) := rfl
/-! Reader.addToken -/
theorem dX4_addToken_0 : decode cX4_addToken 0 = .ok (.aload_n 0, 1) := by decide +kernel
theorem dX4_addToken_1 : decode cX4_addToken 1 = .ok (.getfield 18, 3) := by decide +kernel
theorem dX4_addToken_4 : decode cX4_addToken 4 = .ok (.iload_n 1, 1) := by decide +kernel
theorem dX4_addToken_5 : decode cX4_addToken 5 = .ok (.invokevirtual 63, 3) := by decide +kernel
theorem dX4_addToken_8 : decode cX4_addToken 8 = .ok (.aload_n 0, 1) := by decide +kernel
theorem dX4_addToken_9 : decode cX4_addToken 9 = .ok (.getfield 21, 3) := by decide +kernel
theorem dX4_addToken_12 : decode cX4_addToken 12 = .ok (.iload_n 2, 1) := by decide +kernel
theorem dX4_addToken_13 : decode cX4_addToken 13 = .ok (.invokevirtual 63, 3) := by decide +kernel
theorem dX4_addToken_16 : decode cX4_addToken 16 = .ok (.aload_n 0, 1) := by decide +kernel
theorem dX4_addToken_17 : decode cX4_addToken 17 = .ok (.getfield 24, 3) := by decide +kernel
theorem dX4_addToken_20 : decode cX4_addToken 20 = .ok (.iload_n 3, 1) := by decide +kernel
theorem dX4_addToken_21 : decode cX4_addToken 21 = .ok (.invokevirtual 63, 3) := by decide +kernel
theorem dX4_addToken_24 : decode cX4_addToken 24 = .ok (.return_, 1) := by decide +kernel
abbrev MX4_addToken : MI := (RX4, cX4_addToken, 4, 3, false)
def bX4_addToken : St := (seqS (calS (ckV 5 1) mX5_add (agC va_rf (getR 4 1 (lvR 0)) (agC Value.int (lvI 1) agN))) (seqS (calS (ckV 5 1) mX5_add (agC va_rf (getR 4 2 (lvR 0)) (agC Value.int (lvI 2) agN))) (seqS (calS (ckV 5 1) mX5_add (agC va_rf (getR 4 3 (lvR 0)) (agC Value.int (lvI 3) agN))) retV)))
theorem jX4_addToken : JS MX4_addToken 0 0 0 25 [] bX4_addToken :=
  (JS.seq (pc1 := 8) (JS.call (pc1 := 5) (JA.r (JX.getR (pc1 := 1) (c := 4) (k := 1) (i := 18) (JX.al (k := 0) rfl dX4_addToken_0) cl4 (by decide) rfl fk4_18 dX4_addToken_1) (JA.i (JX.il (k := 1) rfl dX4_addToken_4) JA.nil)) aX5_add (RunK.V (i := 63) (c := 5) (n := 1) cl5 rfl (CN nX5_add (by decide) (by decide)) gw120 gw121 gw122 dX4_addToken_5)) (JS.seq (pc1 := 16) (JS.call (pc1 := 13) (JA.r (JX.getR (pc1 := 9) (c := 4) (k := 2) (i := 21) (JX.al (k := 0) rfl dX4_addToken_8) cl4 (by decide) rfl fk4_21 dX4_addToken_9) (JA.i (JX.il (k := 2) rfl dX4_addToken_12) JA.nil)) aX5_add (RunK.V (i := 63) (c := 5) (n := 1) cl5 rfl (CN nX5_add (by decide) (by decide)) gw120 gw121 gw122 dX4_addToken_13)) (JS.seq (pc1 := 24) (JS.call (pc1 := 21) (JA.r (JX.getR (pc1 := 17) (c := 4) (k := 3) (i := 24) (JX.al (k := 0) rfl dX4_addToken_16) cl4 (by decide) rfl fk4_24 dX4_addToken_17) (JA.i (JX.il (k := 3) rfl dX4_addToken_20) JA.nil)) aX5_add (RunK.V (i := 63) (c := 5) (n := 1) cl5 rfl (CN nX5_add (by decide) (by decide)) gw120 gw121 gw122 dX4_addToken_21)) (JS.retV dX4_addToken_24))))
def mX4_addToken : MS := runM 4 none bX4_addToken
theorem aX4_addToken : MA yX4_addToken cX4_addToken 4 none 3 mX4_addToken := MA.of (plainFor_of_name (by decide)) jX4_addToken
theorem eX4_addToken (a0 : Nat) (a1 : Int32) (a2 : Int32) (a3 : Int32) (h : AH) : mX4_addToken [.ref a0, .int a1, .int a2, .int a3] h = (bX4_addToken [.val (.ref a0), .val (.int a1), .val (.int a2), .val (.int a3)] h).bind (finM none) := rfl
/-! Reader.isDigit -/
theorem dX4_isDigit_0 : decode cX4_isDigit 0 = .ok (.iload_n 0, 1) := by decide +kernel
theorem dX4_isDigit_1 : decode cX4_isDigit 1 = .ok (.bipush 48, 2) := by decide +kernel
theorem dX4_isDigit_3 : decode cX4_isDigit 3 = .ok (.if_icmp .lt 13, 3) := by decide +kernel
theorem dX4_isDigit_6 : decode cX4_isDigit 6 = .ok (.iload_n 0, 1) := by decide +kernel
theorem dX4_isDigit_7 : decode cX4_isDigit 7 = .ok (.bipush 57, 2) := by decide +kernel
theorem dX4_isDigit_9 : decode cX4_isDigit 9 = .ok (.if_icmp .gt 7, 3) := by decide +kernel
theorem dX4_isDigit_12 : decode cX4_isDigit 12 = .ok (.iconst 1, 1) := by decide +kernel
theorem dX4_isDigit_13 : decode cX4_isDigit 13 = .ok (.goto 4, 3) := by decide +kernel
theorem dX4_isDigit_16 : decode cX4_isDigit 16 = .ok (.iconst 0, 1) := by decide +kernel
theorem dX4_isDigit_17 : decode cX4_isDigit 17 = .ok (.ireturn, 1) := by decide +kernel
abbrev MX4_isDigit : MI := (RX4, cX4_isDigit, 1, 1, false)
def bX4_isDigit : St := (retI (iteX (andX (geI (lvI 0) (ciI (iI 48))) (leI (lvI 0) (ciI (iI 57)))) (ciI (iI 1)) (ciI (iI 0))))
theorem jX4_isDigit : JS MX4_isDigit 0 0 0 18 [] bX4_isDigit :=
  (JS.retI (pc1 := 17) (JX.ite (l := 16) (pc1 := 12) (pc2 := 13) (pc3 := 17) (lend := 17) (CJ.and_f (pc1 := 6) (CJ.ge_f (tgt := 16) (pc1 := 1) (pc2 := 3) (JX.il (k := 0) rfl dX4_isDigit_0) (JX.bp (n := 48) kb48 dX4_isDigit_1) dX4_isDigit_3 rfl) (CJ.le_f (tgt := 16) (pc1 := 7) (pc2 := 9) (JX.il (k := 0) rfl dX4_isDigit_6) (JX.bp (n := 57) kb57 dX4_isDigit_7) dX4_isDigit_9 rfl)) (JX.ic (n := 1) rfl dX4_isDigit_12) dX4_isDigit_13 rfl (JX.ic (n := 0) rfl dX4_isDigit_16) (Or.inl rfl)) dX4_isDigit_17)
def mX4_isDigit : MS := runM 1 (some (.boolean)) bX4_isDigit
theorem aX4_isDigit : MA yX4_isDigit cX4_isDigit 1 (some (.boolean)) 1 mX4_isDigit := MA.of (plainFor_of_name (by decide)) jX4_isDigit
theorem eX4_isDigit (a0 : Int32) (h : AH) : mX4_isDigit [.int a0] h = (bX4_isDigit [.val (.int a0)] h).bind (finM (some (.boolean))) := rfl
/-! Reader.isLetter -/
theorem dX4_isLetter_0 : decode cX4_isLetter 0 = .ok (.iload_n 0, 1) := by decide +kernel
theorem dX4_isLetter_1 : decode cX4_isLetter 1 = .ok (.bipush 97, 2) := by decide +kernel
theorem dX4_isLetter_3 : decode cX4_isLetter 3 = .ok (.if_icmp .lt 13, 3) := by decide +kernel
theorem dX4_isLetter_6 : decode cX4_isLetter 6 = .ok (.iload_n 0, 1) := by decide +kernel
theorem dX4_isLetter_7 : decode cX4_isLetter 7 = .ok (.bipush 122, 2) := by decide +kernel
theorem dX4_isLetter_9 : decode cX4_isLetter 9 = .ok (.if_icmp .gt 7, 3) := by decide +kernel
theorem dX4_isLetter_12 : decode cX4_isLetter 12 = .ok (.iconst 1, 1) := by decide +kernel
theorem dX4_isLetter_13 : decode cX4_isLetter 13 = .ok (.goto 4, 3) := by decide +kernel
theorem dX4_isLetter_16 : decode cX4_isLetter 16 = .ok (.iconst 0, 1) := by decide +kernel
theorem dX4_isLetter_17 : decode cX4_isLetter 17 = .ok (.ireturn, 1) := by decide +kernel
abbrev MX4_isLetter : MI := (RX4, cX4_isLetter, 1, 1, false)
def bX4_isLetter : St := (retI (iteX (andX (geI (lvI 0) (ciI (iI 97))) (leI (lvI 0) (ciI (iI 122)))) (ciI (iI 1)) (ciI (iI 0))))
theorem jX4_isLetter : JS MX4_isLetter 0 0 0 18 [] bX4_isLetter :=
  (JS.retI (pc1 := 17) (JX.ite (l := 16) (pc1 := 12) (pc2 := 13) (pc3 := 17) (lend := 17) (CJ.and_f (pc1 := 6) (CJ.ge_f (tgt := 16) (pc1 := 1) (pc2 := 3) (JX.il (k := 0) rfl dX4_isLetter_0) (JX.bp (n := 97) kb97 dX4_isLetter_1) dX4_isLetter_3 rfl) (CJ.le_f (tgt := 16) (pc1 := 7) (pc2 := 9) (JX.il (k := 0) rfl dX4_isLetter_6) (JX.bp (n := 122) kb122 dX4_isLetter_7) dX4_isLetter_9 rfl)) (JX.ic (n := 1) rfl dX4_isLetter_12) dX4_isLetter_13 rfl (JX.ic (n := 0) rfl dX4_isLetter_16) (Or.inl rfl)) dX4_isLetter_17)
def mX4_isLetter : MS := runM 1 (some (.boolean)) bX4_isLetter
theorem aX4_isLetter : MA yX4_isLetter cX4_isLetter 1 (some (.boolean)) 1 mX4_isLetter := MA.of (plainFor_of_name (by decide)) jX4_isLetter
theorem eX4_isLetter (a0 : Int32) (h : AH) : mX4_isLetter [.int a0] h = (bX4_isLetter [.val (.int a0)] h).bind (finM (some (.boolean))) := rfl
/-! Reader.breakOff -/
theorem dX4_breakOff_0 : decode cX4_breakOff 0 = .ok (.aload_n 0, 1) := by decide +kernel
theorem dX4_breakOff_1 : decode cX4_breakOff 1 = .ok (.iconst 4, 1) := by decide +kernel
theorem dX4_breakOff_2 : decode cX4_breakOff 2 = .ok (.iload_n 2, 1) := by decide +kernel
theorem dX4_breakOff_3 : decode cX4_breakOff 3 = .ok (.iload_n 3, 1) := by decide +kernel
theorem dX4_breakOff_4 : decode cX4_breakOff 4 = .ok (.invokevirtual 125, 3) := by decide +kernel
theorem dX4_breakOff_7 : decode cX4_breakOff 7 = .ok (.aload_n 1, 1) := by decide +kernel
theorem dX4_breakOff_8 : decode cX4_breakOff 8 = .ok (.invokevirtual 105, 3) := by decide +kernel
theorem dX4_breakOff_11 : decode cX4_breakOff 11 = .ok (.ireturn, 1) := by decide +kernel
abbrev MX4_breakOff : MI := (RX4, cX4_breakOff, 4, 4, false)
def bX4_breakOff : St := (seqS (calS (ckV 4 3) mX4_addToken (agC va_rf (lvR 0) (agC Value.int (ciI (iI 4)) (agC Value.int (lvI 2) (agC Value.int (lvI 3) agN))))) (retI (calX decI (ckV 5 0) mX5_size (agC va_rf (lvR 1) agN))))
theorem jX4_breakOff : JS MX4_breakOff 0 0 0 12 [] bX4_breakOff :=
  (JS.seq (pc1 := 7) (JS.call (pc1 := 4) (JA.r (JX.al (k := 0) rfl dX4_breakOff_0) (JA.i (JX.ic (n := 4) rfl dX4_breakOff_1) (JA.i (JX.il (k := 2) rfl dX4_breakOff_2) (JA.i (JX.il (k := 3) rfl dX4_breakOff_3) JA.nil)))) aX4_addToken (RunK.V (i := 125) (c := 4) (n := 3) cl4 rfl (CN nX4_addToken (by decide) (by decide)) gw644 gw646 gs6 dX4_breakOff_4)) (JS.retI (pc1 := 11) (JX.call (pc1 := 8) decI_ok (JA.r (JX.al (k := 1) rfl dX4_breakOff_7) JA.nil) aX5_size (RunK.V (i := 105) (c := 5) (n := 0) cl5 rfl (CN nX5_size (by decide) (by decide)) gw628 gw587 gw588 dX4_breakOff_8) (by decide)) dX4_breakOff_11))
def mX4_breakOff : MS := runM 4 (some (.int)) bX4_breakOff
theorem aX4_breakOff : MA yX4_breakOff cX4_breakOff 4 (some (.int)) 4 mX4_breakOff := MA.of (plainFor_of_name (by decide)) jX4_breakOff
theorem eX4_breakOff (a0 : Nat) (a1 : Nat) (a2 : Int32) (a3 : Int32) (h : AH) : mX4_breakOff [.ref a0, .ref a1, .int a2, .int a3] h = (bX4_breakOff [.val (.ref a0), .val (.ref a1), .val (.int a2), .val (.int a3)] h).bind (finM (some (.int))) := rfl
/-! Reader.splitNumber -/
theorem dX4_splitNumber_0 : decode cX4_splitNumber 0 = .ok (.aload_n 1, 1) := by decide +kernel
theorem dX4_splitNumber_1 : decode cX4_splitNumber 1 = .ok (.iload_n 2, 1) := by decide +kernel
theorem dX4_splitNumber_2 : decode cX4_splitNumber 2 = .ok (.iconst 1, 1) := by decide +kernel
theorem dX4_splitNumber_3 : decode cX4_splitNumber 3 = .ok (.isub, 1) := by decide +kernel
theorem dX4_splitNumber_4 : decode cX4_splitNumber 4 = .ok (.invokevirtual 108, 3) := by decide +kernel
theorem dX4_splitNumber_7 : decode cX4_splitNumber 7 = .ok (.invokestatic 111, 3) := by decide +kernel
theorem dX4_splitNumber_10 : decode cX4_splitNumber 10 = .ok (.ifCond .eq 11, 3) := by decide +kernel
theorem dX4_splitNumber_13 : decode cX4_splitNumber 13 = .ok (.aload_n 0, 1) := by decide +kernel
theorem dX4_splitNumber_14 : decode cX4_splitNumber 14 = .ok (.aload_n 1, 1) := by decide +kernel
theorem dX4_splitNumber_15 : decode cX4_splitNumber 15 = .ok (.iload_n 2, 1) := by decide +kernel
theorem dX4_splitNumber_16 : decode cX4_splitNumber 16 = .ok (.iload_n 2, 1) := by decide +kernel
theorem dX4_splitNumber_17 : decode cX4_splitNumber 17 = .ok (.invokevirtual 129, 3) := by decide +kernel
theorem dX4_splitNumber_20 : decode cX4_splitNumber 20 = .ok (.ireturn, 1) := by decide +kernel
theorem dX4_splitNumber_21 : decode cX4_splitNumber 21 = .ok (.iload_n 2, 1) := by decide +kernel
theorem dX4_splitNumber_22 : decode cX4_splitNumber 22 = .ok (.istore_n 3, 1) := by decide +kernel
theorem dX4_splitNumber_23 : decode cX4_splitNumber 23 = .ok (.iconst 0, 1) := by decide +kernel
theorem dX4_splitNumber_24 : decode cX4_splitNumber 24 = .ok (.istore 4, 2) := by decide +kernel
theorem dX4_splitNumber_26 : decode cX4_splitNumber 26 = .ok (.iload_n 3, 1) := by decide +kernel
theorem dX4_splitNumber_27 : decode cX4_splitNumber 27 = .ok (.aload_n 1, 1) := by decide +kernel
theorem dX4_splitNumber_28 : decode cX4_splitNumber 28 = .ok (.invokevirtual 105, 3) := by decide +kernel
theorem dX4_splitNumber_31 : decode cX4_splitNumber 31 = .ok (.if_icmp .ge 43, 3) := by decide +kernel
theorem dX4_splitNumber_34 : decode cX4_splitNumber 34 = .ok (.iload_n 3, 1) := by decide +kernel
theorem dX4_splitNumber_35 : decode cX4_splitNumber 35 = .ok (.iload_n 2, 1) := by decide +kernel
theorem dX4_splitNumber_36 : decode cX4_splitNumber 36 = .ok (.isub, 1) := by decide +kernel
theorem dX4_splitNumber_37 : decode cX4_splitNumber 37 = .ok (.iconst 4, 1) := by decide +kernel
theorem dX4_splitNumber_38 : decode cX4_splitNumber 38 = .ok (.if_icmp .ge 36, 3) := by decide +kernel
theorem dX4_splitNumber_41 : decode cX4_splitNumber 41 = .ok (.aload_n 1, 1) := by decide +kernel
theorem dX4_splitNumber_42 : decode cX4_splitNumber 42 = .ok (.iload_n 3, 1) := by decide +kernel
theorem dX4_splitNumber_43 : decode cX4_splitNumber 43 = .ok (.invokevirtual 108, 3) := by decide +kernel
theorem dX4_splitNumber_46 : decode cX4_splitNumber 46 = .ok (.invokestatic 119, 3) := by decide +kernel
theorem dX4_splitNumber_49 : decode cX4_splitNumber 49 = .ok (.ifCond .eq 25, 3) := by decide +kernel
theorem dX4_splitNumber_52 : decode cX4_splitNumber 52 = .ok (.iload 4, 2) := by decide +kernel
theorem dX4_splitNumber_54 : decode cX4_splitNumber 54 = .ok (.bipush 10, 2) := by decide +kernel
theorem dX4_splitNumber_56 : decode cX4_splitNumber 56 = .ok (.imul, 1) := by decide +kernel
theorem dX4_splitNumber_57 : decode cX4_splitNumber 57 = .ok (.aload_n 1, 1) := by decide +kernel
theorem dX4_splitNumber_58 : decode cX4_splitNumber 58 = .ok (.iload_n 3, 1) := by decide +kernel
theorem dX4_splitNumber_59 : decode cX4_splitNumber 59 = .ok (.invokevirtual 108, 3) := by decide +kernel
theorem dX4_splitNumber_62 : decode cX4_splitNumber 62 = .ok (.iadd, 1) := by decide +kernel
theorem dX4_splitNumber_63 : decode cX4_splitNumber 63 = .ok (.bipush 48, 2) := by decide +kernel
theorem dX4_splitNumber_65 : decode cX4_splitNumber 65 = .ok (.isub, 1) := by decide +kernel
theorem dX4_splitNumber_66 : decode cX4_splitNumber 66 = .ok (.istore 4, 2) := by decide +kernel
theorem dX4_splitNumber_68 : decode cX4_splitNumber 68 = .ok (.iinc 3 1, 3) := by decide +kernel
theorem dX4_splitNumber_71 : decode cX4_splitNumber 71 = .ok (.goto (-45), 3) := by decide +kernel
theorem dX4_splitNumber_74 : decode cX4_splitNumber 74 = .ok (.aload_n 1, 1) := by decide +kernel
theorem dX4_splitNumber_75 : decode cX4_splitNumber 75 = .ok (.iload_n 3, 1) := by decide +kernel
theorem dX4_splitNumber_76 : decode cX4_splitNumber 76 = .ok (.invokevirtual 108, 3) := by decide +kernel
theorem dX4_splitNumber_79 : decode cX4_splitNumber 79 = .ok (.invokestatic 119, 3) := by decide +kernel
theorem dX4_splitNumber_82 : decode cX4_splitNumber 82 = .ok (.ifCond .eq 11, 3) := by decide +kernel
theorem dX4_splitNumber_85 : decode cX4_splitNumber 85 = .ok (.aload_n 0, 1) := by decide +kernel
theorem dX4_splitNumber_86 : decode cX4_splitNumber 86 = .ok (.aload_n 1, 1) := by decide +kernel
theorem dX4_splitNumber_87 : decode cX4_splitNumber 87 = .ok (.iload_n 3, 1) := by decide +kernel
theorem dX4_splitNumber_88 : decode cX4_splitNumber 88 = .ok (.iload_n 2, 1) := by decide +kernel
theorem dX4_splitNumber_89 : decode cX4_splitNumber 89 = .ok (.invokevirtual 129, 3) := by decide +kernel
theorem dX4_splitNumber_92 : decode cX4_splitNumber 92 = .ok (.ireturn, 1) := by decide +kernel
theorem dX4_splitNumber_93 : decode cX4_splitNumber 93 = .ok (.aload_n 0, 1) := by decide +kernel
theorem dX4_splitNumber_94 : decode cX4_splitNumber 94 = .ok (.iconst 2, 1) := by decide +kernel
theorem dX4_splitNumber_95 : decode cX4_splitNumber 95 = .ok (.iload 4, 2) := by decide +kernel
theorem dX4_splitNumber_97 : decode cX4_splitNumber 97 = .ok (.iload_n 2, 1) := by decide +kernel
theorem dX4_splitNumber_98 : decode cX4_splitNumber 98 = .ok (.invokevirtual 125, 3) := by decide +kernel
theorem dX4_splitNumber_101 : decode cX4_splitNumber 101 = .ok (.iload_n 3, 1) := by decide +kernel
theorem dX4_splitNumber_102 : decode cX4_splitNumber 102 = .ok (.ireturn, 1) := by decide +kernel
abbrev MX4_splitNumber : MI := (RX4, cX4_splitNumber, 5, 5, false)
def lcX4_splitNumber_1 : Ex Bool := (andX (andX (ltI (lvI 3) (calX decI (ckV 5 0) mX5_size (agC va_rf (lvR 1) agN))) (ltI (subI (lvI 3) (lvI 2)) (ciI (iI 4)))) (ne0 (calX decI (ckS 1) mX4_isDigit (agC Value.int (calX decI (ckV 5 1) mX5_at (agC va_rf (lvR 1) (agC Value.int (lvI 3) agN))) agN))))
def lbX4_splitNumber_1 : St := (seqS (lsI 4 (subI (addI (mulI (lvI 4) (ciI (iI 10))) (calX decI (ckV 5 1) mX5_at (agC va_rf (lvR 1) (agC Value.int (lvI 3) agN)))) (ciI (iI 48)))) (incI 3 (iI 1)))
def bX4_splitNumber : St := (seqS (ifS (ne0 (calX decI (ckS 1) mX4_isLetter (agC Value.int (calX decI (ckV 5 1) mX5_at (agC va_rf (lvR 1) (agC Value.int (subI (lvI 2) (ciI (iI 1))) agN))) agN))) (retI (calX decI (ckV 4 3) mX4_breakOff (agC va_rf (lvR 0) (agC va_rf (lvR 1) (agC Value.int (lvI 2) (agC Value.int (lvI 2) agN))))))) (seqS (lsI 3 (lvI 2)) (seqS (lsI 4 (ciI (iI 0))) (seqS (whileS lcX4_splitNumber_1 lbX4_splitNumber_1) (seqS (ifS (ne0 (calX decI (ckS 1) mX4_isDigit (agC Value.int (calX decI (ckV 5 1) mX5_at (agC va_rf (lvR 1) (agC Value.int (lvI 3) agN))) agN))) (retI (calX decI (ckV 4 3) mX4_breakOff (agC va_rf (lvR 0) (agC va_rf (lvR 1) (agC Value.int (lvI 3) (agC Value.int (lvI 2) agN))))))) (seqS (calS (ckV 4 3) mX4_addToken (agC va_rf (lvR 0) (agC Value.int (ciI (iI 2)) (agC Value.int (lvI 4) (agC Value.int (lvI 2) agN))))) (retI (lvI 3))))))))
theorem jX4_splitNumber : JS MX4_splitNumber 0 0 0 103 [] bX4_splitNumber :=
  (JS.seq (pc1 := 21) (JS.iff (l := 21) (pc1 := 13) (CJ.ne0_f (tgt := 21) (pc1 := 10) (JX.call (pc1 := 7) decI_ok (JA.i (JX.call (pc1 := 4) decI_ok (JA.r (JX.al (k := 1) rfl dX4_splitNumber_0) (JA.i (JX.isub (pc1 := 2) (pc2 := 3) (JX.il (k := 2) rfl dX4_splitNumber_1) (JX.ic (n := 1) rfl dX4_splitNumber_2) dX4_splitNumber_3) JA.nil)) aX5_at (RunK.V (i := 108) (c := 5) (n := 1) cl5 rfl (CN nX5_at (by decide) (by decide)) gw629 gw595 gw596 dX4_splitNumber_4) (by decide)) JA.nil) aX4_isLetter (RunK.S (i := 111) (n := 1) (CN nX4_isLetter (by decide) (by decide)) gw630 gw631 dX4_splitNumber_7) (by decide)) dX4_splitNumber_10 rfl) (JS.retI (pc1 := 20) (JX.call (pc1 := 17) decI_ok (JA.r (JX.al (k := 0) rfl dX4_splitNumber_13) (JA.r (JX.al (k := 1) rfl dX4_splitNumber_14) (JA.i (JX.il (k := 2) rfl dX4_splitNumber_15) (JA.i (JX.il (k := 2) rfl dX4_splitNumber_16) JA.nil)))) aX4_breakOff (RunK.V (i := 129) (c := 4) (n := 3) cl4 rfl (CN nX4_breakOff (by decide) (by decide)) gw640 gw642 gs5 dX4_splitNumber_17) (by decide)) dX4_splitNumber_20) (Or.inl rfl)) (JS.seq (pc1 := 23) (JS.is (pc1 := 22) (k := 3) (JX.il (k := 2) rfl dX4_splitNumber_21) rfl (show 3 < 5 by decide) dX4_splitNumber_22) (JS.seq (pc1 := 26) (JS.is2 (pc1 := 24) (JX.ic (n := 0) rfl dX4_splitNumber_23) (show 4 < 5 by decide) dX4_splitNumber_24) (JS.seq (pc1 := 74) (JS.while (l := 74) (lb := 74) (pc1 := 52) (pc2 := 71) (pc3 := 74) (CJ.and_f (pc1 := 41) (CJ.and_f (pc1 := 34) (CJ.lt_f (tgt := 74) (pc1 := 27) (pc2 := 31) (JX.il (k := 3) rfl dX4_splitNumber_26) (JX.call (pc1 := 28) decI_ok (JA.r (JX.al (k := 1) rfl dX4_splitNumber_27) JA.nil) aX5_size (RunK.V (i := 105) (c := 5) (n := 0) cl5 rfl (CN nX5_size (by decide) (by decide)) gw628 gw587 gw588 dX4_splitNumber_28) (by decide)) dX4_splitNumber_31 rfl) (CJ.lt_f (tgt := 74) (pc1 := 37) (pc2 := 38) (JX.isub (pc1 := 35) (pc2 := 36) (JX.il (k := 3) rfl dX4_splitNumber_34) (JX.il (k := 2) rfl dX4_splitNumber_35) dX4_splitNumber_36) (JX.ic (n := 4) rfl dX4_splitNumber_37) dX4_splitNumber_38 rfl)) (CJ.ne0_f (tgt := 74) (pc1 := 49) (JX.call (pc1 := 46) decI_ok (JA.i (JX.call (pc1 := 43) decI_ok (JA.r (JX.al (k := 1) rfl dX4_splitNumber_41) (JA.i (JX.il (k := 3) rfl dX4_splitNumber_42) JA.nil)) aX5_at (RunK.V (i := 108) (c := 5) (n := 1) cl5 rfl (CN nX5_at (by decide) (by decide)) gw629 gw595 gw596 dX4_splitNumber_43) (by decide)) JA.nil) aX4_isDigit (RunK.S (i := 119) (n := 1) (CN nX4_isDigit (by decide) (by decide)) gw637 gw638 dX4_splitNumber_46) (by decide)) dX4_splitNumber_49 rfl)) (JS.seq (pc1 := 68) (JS.is2 (pc1 := 66) (JX.isub (pc1 := 63) (pc2 := 65) (JX.iadd (pc1 := 57) (pc2 := 62) (JX.imul (pc1 := 54) (pc2 := 56) (JX.il2 dX4_splitNumber_52) (JX.bp (n := 10) kb10 dX4_splitNumber_54) dX4_splitNumber_56) (JX.call (pc1 := 59) decI_ok (JA.r (JX.al (k := 1) rfl dX4_splitNumber_57) (JA.i (JX.il (k := 3) rfl dX4_splitNumber_58) JA.nil)) aX5_at (RunK.V (i := 108) (c := 5) (n := 1) cl5 rfl (CN nX5_at (by decide) (by decide)) gw629 gw595 gw596 dX4_splitNumber_59) (by decide)) dX4_splitNumber_62) (JX.bp (n := 48) kb48 dX4_splitNumber_63) dX4_splitNumber_65) (show 4 < 5 by decide) dX4_splitNumber_66) (JS.inc (n := 1) rfl (show 3 < 5 by decide) dX4_splitNumber_68)) dX4_splitNumber_71 rfl (Or.inl rfl) (Or.inl rfl)) (JS.seq (pc1 := 93) (JS.iff (l := 93) (pc1 := 85) (CJ.ne0_f (tgt := 93) (pc1 := 82) (JX.call (pc1 := 79) decI_ok (JA.i (JX.call (pc1 := 76) decI_ok (JA.r (JX.al (k := 1) rfl dX4_splitNumber_74) (JA.i (JX.il (k := 3) rfl dX4_splitNumber_75) JA.nil)) aX5_at (RunK.V (i := 108) (c := 5) (n := 1) cl5 rfl (CN nX5_at (by decide) (by decide)) gw629 gw595 gw596 dX4_splitNumber_76) (by decide)) JA.nil) aX4_isDigit (RunK.S (i := 119) (n := 1) (CN nX4_isDigit (by decide) (by decide)) gw637 gw638 dX4_splitNumber_79) (by decide)) dX4_splitNumber_82 rfl) (JS.retI (pc1 := 92) (JX.call (pc1 := 89) decI_ok (JA.r (JX.al (k := 0) rfl dX4_splitNumber_85) (JA.r (JX.al (k := 1) rfl dX4_splitNumber_86) (JA.i (JX.il (k := 3) rfl dX4_splitNumber_87) (JA.i (JX.il (k := 2) rfl dX4_splitNumber_88) JA.nil)))) aX4_breakOff (RunK.V (i := 129) (c := 4) (n := 3) cl4 rfl (CN nX4_breakOff (by decide) (by decide)) gw640 gw642 gs5 dX4_splitNumber_89) (by decide)) dX4_splitNumber_92) (Or.inl rfl)) (JS.seq (pc1 := 101) (JS.call (pc1 := 98) (JA.r (JX.al (k := 0) rfl dX4_splitNumber_93) (JA.i (JX.ic (n := 2) rfl dX4_splitNumber_94) (JA.i (JX.il2 dX4_splitNumber_95) (JA.i (JX.il (k := 2) rfl dX4_splitNumber_97) JA.nil)))) aX4_addToken (RunK.V (i := 125) (c := 4) (n := 3) cl4 rfl (CN nX4_addToken (by decide) (by decide)) gw644 gw646 gs6 dX4_splitNumber_98)) (JS.retI (pc1 := 102) (JX.il (k := 3) rfl dX4_splitNumber_101) dX4_splitNumber_102)))))))
def mX4_splitNumber : MS := runM 5 (some (.int)) bX4_splitNumber
theorem aX4_splitNumber : MA yX4_splitNumber cX4_splitNumber 5 (some (.int)) 5 mX4_splitNumber := MA.of (plainFor_of_name (by decide)) jX4_splitNumber
theorem eX4_splitNumber (a0 : Nat) (a1 : Nat) (a2 : Int32) (h : AH) : mX4_splitNumber [.ref a0, .ref a1, .int a2] h = (bX4_splitNumber [.val (.ref a0), .val (.ref a1), .val (.int a2), .unset, .unset] h).bind (finM (some (.int))) := rfl
/-! Row.indexOf -/
theorem dX5_indexOf_0 : decode cX5_indexOf 0 = .ok (.iconst 0, 1) := by decide +kernel
theorem dX5_indexOf_1 : decode cX5_indexOf 1 = .ok (.istore_n 2, 1) := by decide +kernel
theorem dX5_indexOf_2 : decode cX5_indexOf 2 = .ok (.iload_n 2, 1) := by decide +kernel
theorem dX5_indexOf_3 : decode cX5_indexOf 3 = .ok (.aload_n 0, 1) := by decide +kernel
theorem dX5_indexOf_4 : decode cX5_indexOf 4 = .ok (.getfield 15, 3) := by decide +kernel
theorem dX5_indexOf_7 : decode cX5_indexOf 7 = .ok (.if_icmp .ge 20, 3) := by decide +kernel
theorem dX5_indexOf_10 : decode cX5_indexOf 10 = .ok (.aload_n 0, 1) := by decide +kernel
theorem dX5_indexOf_11 : decode cX5_indexOf 11 = .ok (.iload_n 2, 1) := by decide +kernel
theorem dX5_indexOf_12 : decode cX5_indexOf 12 = .ok (.invokevirtual 25, 3) := by decide +kernel
theorem dX5_indexOf_15 : decode cX5_indexOf 15 = .ok (.iload_n 1, 1) := by decide +kernel
theorem dX5_indexOf_16 : decode cX5_indexOf 16 = .ok (.if_icmp .ne 5, 3) := by decide +kernel
theorem dX5_indexOf_19 : decode cX5_indexOf 19 = .ok (.iload_n 2, 1) := by decide +kernel
theorem dX5_indexOf_20 : decode cX5_indexOf 20 = .ok (.ireturn, 1) := by decide +kernel
theorem dX5_indexOf_21 : decode cX5_indexOf 21 = .ok (.iinc 2 1, 3) := by decide +kernel
theorem dX5_indexOf_24 : decode cX5_indexOf 24 = .ok (.goto (-22), 3) := by decide +kernel
theorem dX5_indexOf_27 : decode cX5_indexOf 27 = .ok (.iconst (-1), 1) := by decide +kernel
theorem dX5_indexOf_28 : decode cX5_indexOf 28 = .ok (.ireturn, 1) := by decide +kernel
abbrev MX5_indexOf : MI := (RX5, cX5_indexOf, 3, 2, false)
def lcX5_indexOf_1 : Ex Bool := (ltI (lvI 2) (rszI (lvR 0)))
def lbX5_indexOf_1 : St := (forB (ifS (eqI (calX decI (ckV 5 1) mX5_at (agC va_rf (lvR 0) (agC Value.int (lvI 2) agN))) (lvI 1)) (retI (lvI 2))) (incI 2 (iI 1)))
def bX5_indexOf : St := (seqS (scS 2 (seqS (lsI 2 (ciI (iI 0))) (whileS lcX5_indexOf_1 lbX5_indexOf_1))) (retI (ciI (iI (-1)))))
theorem jX5_indexOf : JS MX5_indexOf 0 0 0 29 [] bX5_indexOf :=
  (JS.seq (pc1 := 27) (JS.sc (JS.seq (pc1 := 2) (JS.is (pc1 := 1) (k := 2) (JX.ic (n := 0) rfl dX5_indexOf_0) rfl (show 2 < 3 by decide) dX5_indexOf_1) (JS.while (l := 27) (lb := 27) (pc1 := 10) (pc2 := 24) (pc3 := 27) (CJ.lt_f (tgt := 27) (pc1 := 3) (pc2 := 7) (JX.il (k := 2) rfl dX5_indexOf_2) (JX.rsz (pc1 := 4) (i := 15) (JX.al (k := 0) rfl dX5_indexOf_3) cl5 fk5_15 dX5_indexOf_4) dX5_indexOf_7 rfl) (JS.forb (pc1 := 21) (JS.iff (l := 21) (pc1 := 19) (CJ.eq_f (tgt := 21) (pc1 := 15) (pc2 := 16) (JX.call (pc1 := 12) decI_ok (JA.r (JX.al (k := 0) rfl dX5_indexOf_10) (JA.i (JX.il (k := 2) rfl dX5_indexOf_11) JA.nil)) aX5_at (RunK.V (i := 25) (c := 5) (n := 1) cl5 rfl (CN nX5_at (by decide) (by decide)) gw652 gw595 gw596 dX5_indexOf_12) (by decide)) (JX.il (k := 1) rfl dX5_indexOf_15) dX5_indexOf_16 rfl) (JS.retI (pc1 := 20) (JX.il (k := 2) rfl dX5_indexOf_19) dX5_indexOf_20) (Or.inl rfl)) (JS.inc (n := 1) rfl (show 2 < 3 by decide) dX5_indexOf_21)) dX5_indexOf_24 rfl (Or.inl rfl) (Or.inl rfl)))) (JS.retI (pc1 := 28) (JX.ic (n := (-1)) rfl dX5_indexOf_27) dX5_indexOf_28))
def mX5_indexOf : MS := runM 3 (some (.int)) bX5_indexOf
theorem aX5_indexOf : MA yX5_indexOf cX5_indexOf 3 (some (.int)) 2 mX5_indexOf := MA.of (plainFor_of_name (by decide)) jX5_indexOf
theorem eX5_indexOf (a0 : Nat) (a1 : Int32) (h : AH) : mX5_indexOf [.ref a0, .int a1] h = (bX5_indexOf [.val (.ref a0), .val (.int a1), .unset] h).bind (finM (some (.int))) := rfl
/-! Reader.splitWord -/
theorem dX4_splitWord_0 : decode cX4_splitWord 0 = .ok (.aload_n 1, 1) := by decide +kernel
theorem dX4_splitWord_1 : decode cX4_splitWord 1 = .ok (.iload_n 2, 1) := by decide +kernel
theorem dX4_splitWord_2 : decode cX4_splitWord 2 = .ok (.iconst 1, 1) := by decide +kernel
theorem dX4_splitWord_3 : decode cX4_splitWord 3 = .ok (.isub, 1) := by decide +kernel
theorem dX4_splitWord_4 : decode cX4_splitWord 4 = .ok (.invokevirtual 108, 3) := by decide +kernel
theorem dX4_splitWord_7 : decode cX4_splitWord 7 = .ok (.invokestatic 119, 3) := by decide +kernel
theorem dX4_splitWord_10 : decode cX4_splitWord 10 = .ok (.ifCond .eq 11, 3) := by decide +kernel
theorem dX4_splitWord_13 : decode cX4_splitWord 13 = .ok (.aload_n 0, 1) := by decide +kernel
theorem dX4_splitWord_14 : decode cX4_splitWord 14 = .ok (.aload_n 1, 1) := by decide +kernel
theorem dX4_splitWord_15 : decode cX4_splitWord 15 = .ok (.iload_n 2, 1) := by decide +kernel
theorem dX4_splitWord_16 : decode cX4_splitWord 16 = .ok (.iload_n 2, 1) := by decide +kernel
theorem dX4_splitWord_17 : decode cX4_splitWord 17 = .ok (.invokevirtual 129, 3) := by decide +kernel
theorem dX4_splitWord_20 : decode cX4_splitWord 20 = .ok (.ireturn, 1) := by decide +kernel
theorem dX4_splitWord_21 : decode cX4_splitWord 21 = .ok (.iload_n 2, 1) := by decide +kernel
theorem dX4_splitWord_22 : decode cX4_splitWord 22 = .ok (.istore_n 3, 1) := by decide +kernel
theorem dX4_splitWord_23 : decode cX4_splitWord 23 = .ok (.iconst 0, 1) := by decide +kernel
theorem dX4_splitWord_24 : decode cX4_splitWord 24 = .ok (.istore 4, 2) := by decide +kernel
theorem dX4_splitWord_26 : decode cX4_splitWord 26 = .ok (.iload_n 3, 1) := by decide +kernel
theorem dX4_splitWord_27 : decode cX4_splitWord 27 = .ok (.aload_n 1, 1) := by decide +kernel
theorem dX4_splitWord_28 : decode cX4_splitWord 28 = .ok (.invokevirtual 105, 3) := by decide +kernel
theorem dX4_splitWord_31 : decode cX4_splitWord 31 = .ok (.if_icmp .ge 46, 3) := by decide +kernel
theorem dX4_splitWord_34 : decode cX4_splitWord 34 = .ok (.iload_n 3, 1) := by decide +kernel
theorem dX4_splitWord_35 : decode cX4_splitWord 35 = .ok (.iload_n 2, 1) := by decide +kernel
theorem dX4_splitWord_36 : decode cX4_splitWord 36 = .ok (.isub, 1) := by decide +kernel
theorem dX4_splitWord_37 : decode cX4_splitWord 37 = .ok (.bipush 6, 2) := by decide +kernel
theorem dX4_splitWord_39 : decode cX4_splitWord 39 = .ok (.if_icmp .ge 38, 3) := by decide +kernel
theorem dX4_splitWord_42 : decode cX4_splitWord 42 = .ok (.aload_n 1, 1) := by decide +kernel
theorem dX4_splitWord_43 : decode cX4_splitWord 43 = .ok (.iload_n 3, 1) := by decide +kernel
theorem dX4_splitWord_44 : decode cX4_splitWord 44 = .ok (.invokevirtual 108, 3) := by decide +kernel
theorem dX4_splitWord_47 : decode cX4_splitWord 47 = .ok (.invokestatic 111, 3) := by decide +kernel
theorem dX4_splitWord_50 : decode cX4_splitWord 50 = .ok (.ifCond .eq 27, 3) := by decide +kernel
theorem dX4_splitWord_53 : decode cX4_splitWord 53 = .ok (.iload 4, 2) := by decide +kernel
theorem dX4_splitWord_55 : decode cX4_splitWord 55 = .ok (.bipush 32, 2) := by decide +kernel
theorem dX4_splitWord_57 : decode cX4_splitWord 57 = .ok (.imul, 1) := by decide +kernel
theorem dX4_splitWord_58 : decode cX4_splitWord 58 = .ok (.aload_n 1, 1) := by decide +kernel
theorem dX4_splitWord_59 : decode cX4_splitWord 59 = .ok (.iload_n 3, 1) := by decide +kernel
theorem dX4_splitWord_60 : decode cX4_splitWord 60 = .ok (.invokevirtual 108, 3) := by decide +kernel
theorem dX4_splitWord_63 : decode cX4_splitWord 63 = .ok (.iadd, 1) := by decide +kernel
theorem dX4_splitWord_64 : decode cX4_splitWord 64 = .ok (.bipush 97, 2) := by decide +kernel
theorem dX4_splitWord_66 : decode cX4_splitWord 66 = .ok (.isub, 1) := by decide +kernel
theorem dX4_splitWord_67 : decode cX4_splitWord 67 = .ok (.iconst 1, 1) := by decide +kernel
theorem dX4_splitWord_68 : decode cX4_splitWord 68 = .ok (.iadd, 1) := by decide +kernel
theorem dX4_splitWord_69 : decode cX4_splitWord 69 = .ok (.istore 4, 2) := by decide +kernel
theorem dX4_splitWord_71 : decode cX4_splitWord 71 = .ok (.iinc 3 1, 3) := by decide +kernel
theorem dX4_splitWord_74 : decode cX4_splitWord 74 = .ok (.goto (-48), 3) := by decide +kernel
theorem dX4_splitWord_77 : decode cX4_splitWord 77 = .ok (.aload_n 1, 1) := by decide +kernel
theorem dX4_splitWord_78 : decode cX4_splitWord 78 = .ok (.iload_n 3, 1) := by decide +kernel
theorem dX4_splitWord_79 : decode cX4_splitWord 79 = .ok (.invokevirtual 108, 3) := by decide +kernel
theorem dX4_splitWord_82 : decode cX4_splitWord 82 = .ok (.invokestatic 111, 3) := by decide +kernel
theorem dX4_splitWord_85 : decode cX4_splitWord 85 = .ok (.ifCond .eq 11, 3) := by decide +kernel
theorem dX4_splitWord_88 : decode cX4_splitWord 88 = .ok (.aload_n 0, 1) := by decide +kernel
theorem dX4_splitWord_89 : decode cX4_splitWord 89 = .ok (.aload_n 1, 1) := by decide +kernel
theorem dX4_splitWord_90 : decode cX4_splitWord 90 = .ok (.iload_n 3, 1) := by decide +kernel
theorem dX4_splitWord_91 : decode cX4_splitWord 91 = .ok (.iload_n 2, 1) := by decide +kernel
theorem dX4_splitWord_92 : decode cX4_splitWord 92 = .ok (.invokevirtual 129, 3) := by decide +kernel
theorem dX4_splitWord_95 : decode cX4_splitWord 95 = .ok (.ireturn, 1) := by decide +kernel
theorem dX4_splitWord_96 : decode cX4_splitWord 96 = .ok (.aload_n 0, 1) := by decide +kernel
theorem dX4_splitWord_97 : decode cX4_splitWord 97 = .ok (.iconst 1, 1) := by decide +kernel
theorem dX4_splitWord_98 : decode cX4_splitWord 98 = .ok (.aload_n 0, 1) := by decide +kernel
theorem dX4_splitWord_99 : decode cX4_splitWord 99 = .ok (.getfield 12, 3) := by decide +kernel
theorem dX4_splitWord_102 : decode cX4_splitWord 102 = .ok (.iload 4, 2) := by decide +kernel
theorem dX4_splitWord_104 : decode cX4_splitWord 104 = .ok (.invokevirtual 133, 3) := by decide +kernel
theorem dX4_splitWord_107 : decode cX4_splitWord 107 = .ok (.iload_n 2, 1) := by decide +kernel
theorem dX4_splitWord_108 : decode cX4_splitWord 108 = .ok (.invokevirtual 125, 3) := by decide +kernel
theorem dX4_splitWord_111 : decode cX4_splitWord 111 = .ok (.iload_n 3, 1) := by decide +kernel
theorem dX4_splitWord_112 : decode cX4_splitWord 112 = .ok (.ireturn, 1) := by decide +kernel
abbrev MX4_splitWord : MI := (RX4, cX4_splitWord, 5, 5, false)
def lcX4_splitWord_1 : Ex Bool := (andX (andX (ltI (lvI 3) (calX decI (ckV 5 0) mX5_size (agC va_rf (lvR 1) agN))) (ltI (subI (lvI 3) (lvI 2)) (ciI (iI 6)))) (ne0 (calX decI (ckS 1) mX4_isLetter (agC Value.int (calX decI (ckV 5 1) mX5_at (agC va_rf (lvR 1) (agC Value.int (lvI 3) agN))) agN))))
def lbX4_splitWord_1 : St := (seqS (lsI 4 (addI (subI (addI (mulI (lvI 4) (ciI (iI 32))) (calX decI (ckV 5 1) mX5_at (agC va_rf (lvR 1) (agC Value.int (lvI 3) agN)))) (ciI (iI 97))) (ciI (iI 1)))) (incI 3 (iI 1)))
def bX4_splitWord : St := (seqS (ifS (ne0 (calX decI (ckS 1) mX4_isDigit (agC Value.int (calX decI (ckV 5 1) mX5_at (agC va_rf (lvR 1) (agC Value.int (subI (lvI 2) (ciI (iI 1))) agN))) agN))) (retI (calX decI (ckV 4 3) mX4_breakOff (agC va_rf (lvR 0) (agC va_rf (lvR 1) (agC Value.int (lvI 2) (agC Value.int (lvI 2) agN))))))) (seqS (lsI 3 (lvI 2)) (seqS (lsI 4 (ciI (iI 0))) (seqS (whileS lcX4_splitWord_1 lbX4_splitWord_1) (seqS (ifS (ne0 (calX decI (ckS 1) mX4_isLetter (agC Value.int (calX decI (ckV 5 1) mX5_at (agC va_rf (lvR 1) (agC Value.int (lvI 3) agN))) agN))) (retI (calX decI (ckV 4 3) mX4_breakOff (agC va_rf (lvR 0) (agC va_rf (lvR 1) (agC Value.int (lvI 3) (agC Value.int (lvI 2) agN))))))) (seqS (calS (ckV 4 3) mX4_addToken (agC va_rf (lvR 0) (agC Value.int (ciI (iI 1)) (agC Value.int (calX decI (ckV 5 1) mX5_indexOf (agC va_rf (getR 4 0 (lvR 0)) (agC Value.int (lvI 4) agN))) (agC Value.int (lvI 2) agN))))) (retI (lvI 3))))))))
theorem jX4_splitWord : JS MX4_splitWord 0 0 0 113 [] bX4_splitWord :=
  (JS.seq (pc1 := 21) (JS.iff (l := 21) (pc1 := 13) (CJ.ne0_f (tgt := 21) (pc1 := 10) (JX.call (pc1 := 7) decI_ok (JA.i (JX.call (pc1 := 4) decI_ok (JA.r (JX.al (k := 1) rfl dX4_splitWord_0) (JA.i (JX.isub (pc1 := 2) (pc2 := 3) (JX.il (k := 2) rfl dX4_splitWord_1) (JX.ic (n := 1) rfl dX4_splitWord_2) dX4_splitWord_3) JA.nil)) aX5_at (RunK.V (i := 108) (c := 5) (n := 1) cl5 rfl (CN nX5_at (by decide) (by decide)) gw629 gw595 gw596 dX4_splitWord_4) (by decide)) JA.nil) aX4_isDigit (RunK.S (i := 119) (n := 1) (CN nX4_isDigit (by decide) (by decide)) gw637 gw638 dX4_splitWord_7) (by decide)) dX4_splitWord_10 rfl) (JS.retI (pc1 := 20) (JX.call (pc1 := 17) decI_ok (JA.r (JX.al (k := 0) rfl dX4_splitWord_13) (JA.r (JX.al (k := 1) rfl dX4_splitWord_14) (JA.i (JX.il (k := 2) rfl dX4_splitWord_15) (JA.i (JX.il (k := 2) rfl dX4_splitWord_16) JA.nil)))) aX4_breakOff (RunK.V (i := 129) (c := 4) (n := 3) cl4 rfl (CN nX4_breakOff (by decide) (by decide)) gw640 gw642 gs5 dX4_splitWord_17) (by decide)) dX4_splitWord_20) (Or.inl rfl)) (JS.seq (pc1 := 23) (JS.is (pc1 := 22) (k := 3) (JX.il (k := 2) rfl dX4_splitWord_21) rfl (show 3 < 5 by decide) dX4_splitWord_22) (JS.seq (pc1 := 26) (JS.is2 (pc1 := 24) (JX.ic (n := 0) rfl dX4_splitWord_23) (show 4 < 5 by decide) dX4_splitWord_24) (JS.seq (pc1 := 77) (JS.while (l := 77) (lb := 77) (pc1 := 53) (pc2 := 74) (pc3 := 77) (CJ.and_f (pc1 := 42) (CJ.and_f (pc1 := 34) (CJ.lt_f (tgt := 77) (pc1 := 27) (pc2 := 31) (JX.il (k := 3) rfl dX4_splitWord_26) (JX.call (pc1 := 28) decI_ok (JA.r (JX.al (k := 1) rfl dX4_splitWord_27) JA.nil) aX5_size (RunK.V (i := 105) (c := 5) (n := 0) cl5 rfl (CN nX5_size (by decide) (by decide)) gw628 gw587 gw588 dX4_splitWord_28) (by decide)) dX4_splitWord_31 rfl) (CJ.lt_f (tgt := 77) (pc1 := 37) (pc2 := 39) (JX.isub (pc1 := 35) (pc2 := 36) (JX.il (k := 3) rfl dX4_splitWord_34) (JX.il (k := 2) rfl dX4_splitWord_35) dX4_splitWord_36) (JX.bp (n := 6) kb6 dX4_splitWord_37) dX4_splitWord_39 rfl)) (CJ.ne0_f (tgt := 77) (pc1 := 50) (JX.call (pc1 := 47) decI_ok (JA.i (JX.call (pc1 := 44) decI_ok (JA.r (JX.al (k := 1) rfl dX4_splitWord_42) (JA.i (JX.il (k := 3) rfl dX4_splitWord_43) JA.nil)) aX5_at (RunK.V (i := 108) (c := 5) (n := 1) cl5 rfl (CN nX5_at (by decide) (by decide)) gw629 gw595 gw596 dX4_splitWord_44) (by decide)) JA.nil) aX4_isLetter (RunK.S (i := 111) (n := 1) (CN nX4_isLetter (by decide) (by decide)) gw630 gw631 dX4_splitWord_47) (by decide)) dX4_splitWord_50 rfl)) (JS.seq (pc1 := 71) (JS.is2 (pc1 := 69) (JX.iadd (pc1 := 67) (pc2 := 68) (JX.isub (pc1 := 64) (pc2 := 66) (JX.iadd (pc1 := 58) (pc2 := 63) (JX.imul (pc1 := 55) (pc2 := 57) (JX.il2 dX4_splitWord_53) (JX.bp (n := 32) kb32 dX4_splitWord_55) dX4_splitWord_57) (JX.call (pc1 := 60) decI_ok (JA.r (JX.al (k := 1) rfl dX4_splitWord_58) (JA.i (JX.il (k := 3) rfl dX4_splitWord_59) JA.nil)) aX5_at (RunK.V (i := 108) (c := 5) (n := 1) cl5 rfl (CN nX5_at (by decide) (by decide)) gw629 gw595 gw596 dX4_splitWord_60) (by decide)) dX4_splitWord_63) (JX.bp (n := 97) kb97 dX4_splitWord_64) dX4_splitWord_66) (JX.ic (n := 1) rfl dX4_splitWord_67) dX4_splitWord_68) (show 4 < 5 by decide) dX4_splitWord_69) (JS.inc (n := 1) rfl (show 3 < 5 by decide) dX4_splitWord_71)) dX4_splitWord_74 rfl (Or.inl rfl) (Or.inl rfl)) (JS.seq (pc1 := 96) (JS.iff (l := 96) (pc1 := 88) (CJ.ne0_f (tgt := 96) (pc1 := 85) (JX.call (pc1 := 82) decI_ok (JA.i (JX.call (pc1 := 79) decI_ok (JA.r (JX.al (k := 1) rfl dX4_splitWord_77) (JA.i (JX.il (k := 3) rfl dX4_splitWord_78) JA.nil)) aX5_at (RunK.V (i := 108) (c := 5) (n := 1) cl5 rfl (CN nX5_at (by decide) (by decide)) gw629 gw595 gw596 dX4_splitWord_79) (by decide)) JA.nil) aX4_isLetter (RunK.S (i := 111) (n := 1) (CN nX4_isLetter (by decide) (by decide)) gw630 gw631 dX4_splitWord_82) (by decide)) dX4_splitWord_85 rfl) (JS.retI (pc1 := 95) (JX.call (pc1 := 92) decI_ok (JA.r (JX.al (k := 0) rfl dX4_splitWord_88) (JA.r (JX.al (k := 1) rfl dX4_splitWord_89) (JA.i (JX.il (k := 3) rfl dX4_splitWord_90) (JA.i (JX.il (k := 2) rfl dX4_splitWord_91) JA.nil)))) aX4_breakOff (RunK.V (i := 129) (c := 4) (n := 3) cl4 rfl (CN nX4_breakOff (by decide) (by decide)) gw640 gw642 gs5 dX4_splitWord_92) (by decide)) dX4_splitWord_95) (Or.inl rfl)) (JS.seq (pc1 := 111) (JS.call (pc1 := 108) (JA.r (JX.al (k := 0) rfl dX4_splitWord_96) (JA.i (JX.ic (n := 1) rfl dX4_splitWord_97) (JA.i (JX.call (pc1 := 104) decI_ok (JA.r (JX.getR (pc1 := 99) (c := 4) (k := 0) (i := 12) (JX.al (k := 0) rfl dX4_splitWord_98) cl4 (by decide) rfl fk4_12 dX4_splitWord_99) (JA.i (JX.il2 dX4_splitWord_102) JA.nil)) aX5_indexOf (RunK.V (i := 133) (c := 5) (n := 1) cl5 rfl (CN nX5_indexOf (by decide) (by decide)) gw648 gw649 gw650 dX4_splitWord_104) (by decide)) (JA.i (JX.il (k := 2) rfl dX4_splitWord_107) JA.nil)))) aX4_addToken (RunK.V (i := 125) (c := 4) (n := 3) cl4 rfl (CN nX4_addToken (by decide) (by decide)) gw644 gw646 gs6 dX4_splitWord_108)) (JS.retI (pc1 := 112) (JX.il (k := 3) rfl dX4_splitWord_111) dX4_splitWord_112)))))))
def mX4_splitWord : MS := runM 5 (some (.int)) bX4_splitWord
theorem aX4_splitWord : MA yX4_splitWord cX4_splitWord 5 (some (.int)) 5 mX4_splitWord := MA.of (plainFor_of_name (by decide)) jX4_splitWord
theorem eX4_splitWord (a0 : Nat) (a1 : Nat) (a2 : Int32) (h : AH) : mX4_splitWord [.ref a0, .ref a1, .int a2] h = (bX4_splitWord [.val (.ref a0), .val (.ref a1), .val (.int a2), .unset, .unset] h).bind (finM (some (.int))) := rfl
/-! Reader.split -/
theorem dX4_split_0 : decode cX4_split 0 = .ok (.aload_n 0, 1) := by decide +kernel
theorem dX4_split_1 : decode cX4_split 1 = .ok (.getfield 18, 3) := by decide +kernel
theorem dX4_split_4 : decode cX4_split 4 = .ok (.invokevirtual 102, 3) := by decide +kernel
theorem dX4_split_7 : decode cX4_split 7 = .ok (.aload_n 0, 1) := by decide +kernel
theorem dX4_split_8 : decode cX4_split 8 = .ok (.getfield 21, 3) := by decide +kernel
theorem dX4_split_11 : decode cX4_split 11 = .ok (.invokevirtual 102, 3) := by decide +kernel
theorem dX4_split_14 : decode cX4_split 14 = .ok (.aload_n 0, 1) := by decide +kernel
theorem dX4_split_15 : decode cX4_split 15 = .ok (.getfield 24, 3) := by decide +kernel
theorem dX4_split_18 : decode cX4_split 18 = .ok (.invokevirtual 102, 3) := by decide +kernel
theorem dX4_split_21 : decode cX4_split 21 = .ok (.iconst 0, 1) := by decide +kernel
theorem dX4_split_22 : decode cX4_split 22 = .ok (.istore_n 2, 1) := by decide +kernel
theorem dX4_split_23 : decode cX4_split 23 = .ok (.iconst 0, 1) := by decide +kernel
theorem dX4_split_24 : decode cX4_split 24 = .ok (.istore_n 3, 1) := by decide +kernel
theorem dX4_split_25 : decode cX4_split 25 = .ok (.iload_n 3, 1) := by decide +kernel
theorem dX4_split_26 : decode cX4_split 26 = .ok (.sipush 1600, 3) := by decide +kernel
theorem dX4_split_29 : decode cX4_split 29 = .ok (.if_icmp .ge 85, 3) := by decide +kernel
theorem dX4_split_32 : decode cX4_split 32 = .ok (.iload_n 2, 1) := by decide +kernel
theorem dX4_split_33 : decode cX4_split 33 = .ok (.aload_n 1, 1) := by decide +kernel
theorem dX4_split_34 : decode cX4_split 34 = .ok (.invokevirtual 105, 3) := by decide +kernel
theorem dX4_split_37 : decode cX4_split 37 = .ok (.if_icmp .ge 77, 3) := by decide +kernel
theorem dX4_split_40 : decode cX4_split 40 = .ok (.aload_n 1, 1) := by decide +kernel
theorem dX4_split_41 : decode cX4_split 41 = .ok (.iload_n 2, 1) := by decide +kernel
theorem dX4_split_42 : decode cX4_split 42 = .ok (.invokevirtual 108, 3) := by decide +kernel
theorem dX4_split_45 : decode cX4_split 45 = .ok (.istore 4, 2) := by decide +kernel
theorem dX4_split_47 : decode cX4_split 47 = .ok (.iload 4, 2) := by decide +kernel
theorem dX4_split_49 : decode cX4_split 49 = .ok (.invokestatic 111, 3) := by decide +kernel
theorem dX4_split_52 : decode cX4_split 52 = .ok (.ifCond .eq 13, 3) := by decide +kernel
theorem dX4_split_55 : decode cX4_split 55 = .ok (.aload_n 0, 1) := by decide +kernel
theorem dX4_split_56 : decode cX4_split 56 = .ok (.aload_n 1, 1) := by decide +kernel
theorem dX4_split_57 : decode cX4_split 57 = .ok (.iload_n 2, 1) := by decide +kernel
theorem dX4_split_58 : decode cX4_split 58 = .ok (.invokevirtual 115, 3) := by decide +kernel
theorem dX4_split_61 : decode cX4_split 61 = .ok (.istore_n 2, 1) := by decide +kernel
theorem dX4_split_62 : decode cX4_split 62 = .ok (.goto 46, 3) := by decide +kernel
theorem dX4_split_65 : decode cX4_split 65 = .ok (.iload 4, 2) := by decide +kernel
theorem dX4_split_67 : decode cX4_split 67 = .ok (.invokestatic 119, 3) := by decide +kernel
theorem dX4_split_70 : decode cX4_split 70 = .ok (.ifCond .eq 13, 3) := by decide +kernel
theorem dX4_split_73 : decode cX4_split 73 = .ok (.aload_n 0, 1) := by decide +kernel
theorem dX4_split_74 : decode cX4_split 74 = .ok (.aload_n 1, 1) := by decide +kernel
theorem dX4_split_75 : decode cX4_split 75 = .ok (.iload_n 2, 1) := by decide +kernel
theorem dX4_split_76 : decode cX4_split 76 = .ok (.invokevirtual 122, 3) := by decide +kernel
theorem dX4_split_79 : decode cX4_split 79 = .ok (.istore_n 2, 1) := by decide +kernel
theorem dX4_split_80 : decode cX4_split 80 = .ok (.goto 28, 3) := by decide +kernel
theorem dX4_split_83 : decode cX4_split 83 = .ok (.iload 4, 2) := by decide +kernel
theorem dX4_split_85 : decode cX4_split 85 = .ok (.bipush 10, 2) := by decide +kernel
theorem dX4_split_87 : decode cX4_split 87 = .ok (.if_icmp .eq 18, 3) := by decide +kernel
theorem dX4_split_90 : decode cX4_split 90 = .ok (.iload 4, 2) := by decide +kernel
theorem dX4_split_92 : decode cX4_split 92 = .ok (.bipush 32, 2) := by decide +kernel
theorem dX4_split_94 : decode cX4_split 94 = .ok (.if_icmp .eq 11, 3) := by decide +kernel
theorem dX4_split_97 : decode cX4_split 97 = .ok (.aload_n 0, 1) := by decide +kernel
theorem dX4_split_98 : decode cX4_split 98 = .ok (.iconst 3, 1) := by decide +kernel
theorem dX4_split_99 : decode cX4_split 99 = .ok (.iload 4, 2) := by decide +kernel
theorem dX4_split_101 : decode cX4_split 101 = .ok (.iload_n 2, 1) := by decide +kernel
theorem dX4_split_102 : decode cX4_split 102 = .ok (.invokevirtual 125, 3) := by decide +kernel
theorem dX4_split_105 : decode cX4_split 105 = .ok (.iinc 2 1, 3) := by decide +kernel
theorem dX4_split_108 : decode cX4_split 108 = .ok (.iinc 3 1, 3) := by decide +kernel
theorem dX4_split_111 : decode cX4_split 111 = .ok (.goto (-86), 3) := by decide +kernel
theorem dX4_split_114 : decode cX4_split 114 = .ok (.aload_n 0, 1) := by decide +kernel
theorem dX4_split_115 : decode cX4_split 115 = .ok (.iconst 0, 1) := by decide +kernel
theorem dX4_split_116 : decode cX4_split 116 = .ok (.iconst 0, 1) := by decide +kernel
theorem dX4_split_117 : decode cX4_split 117 = .ok (.aload_n 1, 1) := by decide +kernel
theorem dX4_split_118 : decode cX4_split 118 = .ok (.invokevirtual 105, 3) := by decide +kernel
theorem dX4_split_121 : decode cX4_split 121 = .ok (.invokevirtual 125, 3) := by decide +kernel
theorem dX4_split_124 : decode cX4_split 124 = .ok (.return_, 1) := by decide +kernel
abbrev MX4_split : MI := (RX4, cX4_split, 5, 6, false)
def lcX4_split_1 : Ex Bool := (andX (ltI (lvI 3) (ciI (iI 1600))) (ltI (lvI 2) (calX decI (ckV 5 0) mX5_size (agC va_rf (lvR 1) agN))))
def lbX4_split_1 : St := (forB (scS 4 (seqS (lsI 4 (calX decI (ckV 5 1) mX5_at (agC va_rf (lvR 1) (agC Value.int (lvI 2) agN)))) (ifeS (ne0 (calX decI (ckS 1) mX4_isLetter (agC Value.int (lvI 4) agN))) (lsI 2 (calX decI (ckV 4 2) mX4_splitWord (agC va_rf (lvR 0) (agC va_rf (lvR 1) (agC Value.int (lvI 2) agN))))) (ifeS (ne0 (calX decI (ckS 1) mX4_isDigit (agC Value.int (lvI 4) agN))) (lsI 2 (calX decI (ckV 4 2) mX4_splitNumber (agC va_rf (lvR 0) (agC va_rf (lvR 1) (agC Value.int (lvI 2) agN))))) (seqS (ifS (andX (neI (lvI 4) (ciI (iI 10))) (neI (lvI 4) (ciI (iI 32)))) (calS (ckV 4 3) mX4_addToken (agC va_rf (lvR 0) (agC Value.int (ciI (iI 3)) (agC Value.int (lvI 4) (agC Value.int (lvI 2) agN)))))) (incI 2 (iI 1))))))) (incI 3 (iI 1)))
def bX4_split : St := (seqS (calS (ckV 5 0) mX5_clear (agC va_rf (getR 4 1 (lvR 0)) agN)) (seqS (calS (ckV 5 0) mX5_clear (agC va_rf (getR 4 2 (lvR 0)) agN)) (seqS (calS (ckV 5 0) mX5_clear (agC va_rf (getR 4 3 (lvR 0)) agN)) (seqS (lsI 2 (ciI (iI 0))) (seqS (scS 3 (seqS (lsI 3 (ciI (iI 0))) (whileS lcX4_split_1 lbX4_split_1))) (seqS (calS (ckV 4 3) mX4_addToken (agC va_rf (lvR 0) (agC Value.int (ciI (iI 0)) (agC Value.int (ciI (iI 0)) (agC Value.int (calX decI (ckV 5 0) mX5_size (agC va_rf (lvR 1) agN)) agN))))) retV))))))
theorem jX4_split : JS MX4_split 0 0 0 125 [] bX4_split :=
  (JS.seq (pc1 := 7) (JS.call (pc1 := 4) (JA.r (JX.getR (pc1 := 1) (c := 4) (k := 1) (i := 18) (JX.al (k := 0) rfl dX4_split_0) cl4 (by decide) rfl fk4_18 dX4_split_1) JA.nil) aX5_clear (RunK.V (i := 102) (c := 5) (n := 0) cl5 rfl (CN nX5_clear (by decide) (by decide)) gw627 gw209 gw210 dX4_split_4)) (JS.seq (pc1 := 14) (JS.call (pc1 := 11) (JA.r (JX.getR (pc1 := 8) (c := 4) (k := 2) (i := 21) (JX.al (k := 0) rfl dX4_split_7) cl4 (by decide) rfl fk4_21 dX4_split_8) JA.nil) aX5_clear (RunK.V (i := 102) (c := 5) (n := 0) cl5 rfl (CN nX5_clear (by decide) (by decide)) gw627 gw209 gw210 dX4_split_11)) (JS.seq (pc1 := 21) (JS.call (pc1 := 18) (JA.r (JX.getR (pc1 := 15) (c := 4) (k := 3) (i := 24) (JX.al (k := 0) rfl dX4_split_14) cl4 (by decide) rfl fk4_24 dX4_split_15) JA.nil) aX5_clear (RunK.V (i := 102) (c := 5) (n := 0) cl5 rfl (CN nX5_clear (by decide) (by decide)) gw627 gw209 gw210 dX4_split_18)) (JS.seq (pc1 := 23) (JS.is (pc1 := 22) (k := 2) (JX.ic (n := 0) rfl dX4_split_21) rfl (show 2 < 5 by decide) dX4_split_22) (JS.seq (pc1 := 114) (JS.sc (JS.seq (pc1 := 25) (JS.is (pc1 := 24) (k := 3) (JX.ic (n := 0) rfl dX4_split_23) rfl (show 3 < 5 by decide) dX4_split_24) (JS.while (l := 114) (lb := 114) (pc1 := 40) (pc2 := 111) (pc3 := 114) (CJ.and_f (pc1 := 32) (CJ.lt_f (tgt := 114) (pc1 := 26) (pc2 := 29) (JX.il (k := 3) rfl dX4_split_25) (JX.sp (n := 1600) ks1600 dX4_split_26) dX4_split_29 rfl) (CJ.lt_f (tgt := 114) (pc1 := 33) (pc2 := 37) (JX.il (k := 2) rfl dX4_split_32) (JX.call (pc1 := 34) decI_ok (JA.r (JX.al (k := 1) rfl dX4_split_33) JA.nil) aX5_size (RunK.V (i := 105) (c := 5) (n := 0) cl5 rfl (CN nX5_size (by decide) (by decide)) gw628 gw587 gw588 dX4_split_34) (by decide)) dX4_split_37 rfl)) (JS.forb (pc1 := 108) (JS.sc (JS.seq (pc1 := 47) (JS.is2 (pc1 := 45) (JX.call (pc1 := 42) decI_ok (JA.r (JX.al (k := 1) rfl dX4_split_40) (JA.i (JX.il (k := 2) rfl dX4_split_41) JA.nil)) aX5_at (RunK.V (i := 108) (c := 5) (n := 1) cl5 rfl (CN nX5_at (by decide) (by decide)) gw629 gw595 gw596 dX4_split_42) (by decide)) (show 4 < 5 by decide) dX4_split_45) (JS.ife (l := 65) (lend := 108) (pc1 := 55) (pc2 := 62) (pc3 := 108) (CJ.ne0_f (tgt := 65) (pc1 := 52) (JX.call (pc1 := 49) decI_ok (JA.i (JX.il2 dX4_split_47) JA.nil) aX4_isLetter (RunK.S (i := 111) (n := 1) (CN nX4_isLetter (by decide) (by decide)) gw630 gw631 dX4_split_49) (by decide)) dX4_split_52 rfl) (JS.is (pc1 := 61) (k := 2) (JX.call (pc1 := 58) decI_ok (JA.r (JX.al (k := 0) rfl dX4_split_55) (JA.r (JX.al (k := 1) rfl dX4_split_56) (JA.i (JX.il (k := 2) rfl dX4_split_57) JA.nil))) aX4_splitWord (RunK.V (i := 115) (c := 4) (n := 2) cl4 rfl (CN nX4_splitWord (by decide) (by decide)) gw633 gw635 gs4 dX4_split_58) (by decide)) rfl (show 2 < 5 by decide) dX4_split_61) dX4_split_62 rfl (JS.ife (l := 83) (lend := 108) (pc1 := 73) (pc2 := 80) (pc3 := 108) (CJ.ne0_f (tgt := 83) (pc1 := 70) (JX.call (pc1 := 67) decI_ok (JA.i (JX.il2 dX4_split_65) JA.nil) aX4_isDigit (RunK.S (i := 119) (n := 1) (CN nX4_isDigit (by decide) (by decide)) gw637 gw638 dX4_split_67) (by decide)) dX4_split_70 rfl) (JS.is (pc1 := 79) (k := 2) (JX.call (pc1 := 76) decI_ok (JA.r (JX.al (k := 0) rfl dX4_split_73) (JA.r (JX.al (k := 1) rfl dX4_split_74) (JA.i (JX.il (k := 2) rfl dX4_split_75) JA.nil))) aX4_splitNumber (RunK.V (i := 122) (c := 4) (n := 2) cl4 rfl (CN nX4_splitNumber (by decide) (by decide)) gw653 gw655 gs7 dX4_split_76) (by decide)) rfl (show 2 < 5 by decide) dX4_split_79) dX4_split_80 rfl (JS.seq (pc1 := 105) (JS.iff (l := 105) (pc1 := 97) (CJ.and_f (pc1 := 90) (CJ.ne_f (tgt := 105) (pc1 := 85) (pc2 := 87) (JX.il2 dX4_split_83) (JX.bp (n := 10) kb10 dX4_split_85) dX4_split_87 rfl) (CJ.ne_f (tgt := 105) (pc1 := 92) (pc2 := 94) (JX.il2 dX4_split_90) (JX.bp (n := 32) kb32 dX4_split_92) dX4_split_94 rfl)) (JS.call (pc1 := 102) (JA.r (JX.al (k := 0) rfl dX4_split_97) (JA.i (JX.ic (n := 3) rfl dX4_split_98) (JA.i (JX.il2 dX4_split_99) (JA.i (JX.il (k := 2) rfl dX4_split_101) JA.nil)))) aX4_addToken (RunK.V (i := 125) (c := 4) (n := 3) cl4 rfl (CN nX4_addToken (by decide) (by decide)) gw644 gw646 gs6 dX4_split_102)) (Or.inl rfl)) (JS.inc (n := 1) rfl (show 2 < 5 by decide) dX4_split_105)) (Or.inl rfl)) (Or.inl rfl)))) (JS.inc (n := 1) rfl (show 3 < 5 by decide) dX4_split_108)) dX4_split_111 rfl (Or.inl rfl) (Or.inl rfl)))) (JS.seq (pc1 := 124) (JS.call (pc1 := 121) (JA.r (JX.al (k := 0) rfl dX4_split_114) (JA.i (JX.ic (n := 0) rfl dX4_split_115) (JA.i (JX.ic (n := 0) rfl dX4_split_116) (JA.i (JX.call (pc1 := 118) decI_ok (JA.r (JX.al (k := 1) rfl dX4_split_117) JA.nil) aX5_size (RunK.V (i := 105) (c := 5) (n := 0) cl5 rfl (CN nX5_size (by decide) (by decide)) gw628 gw587 gw588 dX4_split_118) (by decide)) JA.nil)))) aX4_addToken (RunK.V (i := 125) (c := 4) (n := 3) cl4 rfl (CN nX4_addToken (by decide) (by decide)) gw644 gw646 gs6 dX4_split_121)) (JS.retV dX4_split_124)))))))
def mX4_split : MS := runM 5 none bX4_split
theorem aX4_split : MA yX4_split cX4_split 5 none 6 mX4_split := MA.of (plainFor_of_name (by decide)) jX4_split
theorem eX4_split (a0 : Nat) (a1 : Nat) (h : AH) : mX4_split [.ref a0, .ref a1] h = (bX4_split [.val (.ref a0), .val (.ref a1), .unset, .unset, .unset] h).bind (finM none) := rfl
/-! Reader.isSign -/
theorem dX4_isSign_0 : decode cX4_isSign 0 = .ok (.aload_n 0, 1) := by decide +kernel
theorem dX4_isSign_1 : decode cX4_isSign 1 = .ok (.getfield 31, 3) := by decide +kernel
theorem dX4_isSign_4 : decode cX4_isSign 4 = .ok (.iconst 3, 1) := by decide +kernel
theorem dX4_isSign_5 : decode cX4_isSign 5 = .ok (.if_icmp .ne 15, 3) := by decide +kernel
theorem dX4_isSign_8 : decode cX4_isSign 8 = .ok (.aload_n 0, 1) := by decide +kernel
theorem dX4_isSign_9 : decode cX4_isSign 9 = .ok (.getfield 34, 3) := by decide +kernel
theorem dX4_isSign_12 : decode cX4_isSign 12 = .ok (.iload_n 1, 1) := by decide +kernel
theorem dX4_isSign_13 : decode cX4_isSign 13 = .ok (.if_icmp .ne 7, 3) := by decide +kernel
theorem dX4_isSign_16 : decode cX4_isSign 16 = .ok (.iconst 1, 1) := by decide +kernel
theorem dX4_isSign_17 : decode cX4_isSign 17 = .ok (.goto 4, 3) := by decide +kernel
theorem dX4_isSign_20 : decode cX4_isSign 20 = .ok (.iconst 0, 1) := by decide +kernel
theorem dX4_isSign_21 : decode cX4_isSign 21 = .ok (.ireturn, 1) := by decide +kernel
abbrev MX4_isSign : MI := (RX4, cX4_isSign, 2, 1, false)
def bX4_isSign : St := (retI (iteX (andX (eqI (getI 4 5 (lvR 0)) (ciI (iI 3))) (eqI (getI 4 6 (lvR 0)) (lvI 1))) (ciI (iI 1)) (ciI (iI 0))))
theorem jX4_isSign : JS MX4_isSign 0 0 0 22 [] bX4_isSign :=
  (JS.retI (pc1 := 21) (JX.ite (l := 20) (pc1 := 16) (pc2 := 17) (pc3 := 21) (lend := 21) (CJ.and_f (pc1 := 8) (CJ.eq_f (tgt := 20) (pc1 := 4) (pc2 := 5) (JX.getI (pc1 := 1) (c := 4) (k := 5) (i := 31) (JX.al (k := 0) rfl dX4_isSign_0) cl4 (by decide) rfl fk4_31 dX4_isSign_1) (JX.ic (n := 3) rfl dX4_isSign_4) dX4_isSign_5 rfl) (CJ.eq_f (tgt := 20) (pc1 := 12) (pc2 := 13) (JX.getI (pc1 := 9) (c := 4) (k := 6) (i := 34) (JX.al (k := 0) rfl dX4_isSign_8) cl4 (by decide) rfl fk4_34 dX4_isSign_9) (JX.il (k := 1) rfl dX4_isSign_12) dX4_isSign_13 rfl)) (JX.ic (n := 1) rfl dX4_isSign_16) dX4_isSign_17 rfl (JX.ic (n := 0) rfl dX4_isSign_20) (Or.inl rfl)) dX4_isSign_21)
def mX4_isSign : MS := runM 2 (some (.boolean)) bX4_isSign
theorem aX4_isSign : MA yX4_isSign cX4_isSign 2 (some (.boolean)) 1 mX4_isSign := MA.of (plainFor_of_name (by decide)) jX4_isSign
theorem eX4_isSign (a0 : Nat) (a1 : Int32) (h : AH) : mX4_isSign [.ref a0, .int a1] h = (bX4_isSign [.val (.ref a0), .val (.int a1)] h).bind (finM (some (.boolean))) := rfl
/-! Reader.takes -/
theorem dX4_takes_0 : decode cX4_takes 0 = .ok (.aload_n 0, 1) := by decide +kernel
theorem dX4_takes_1 : decode cX4_takes 1 = .ok (.iload_n 1, 1) := by decide +kernel
theorem dX4_takes_2 : decode cX4_takes 2 = .ok (.invokevirtual 140, 3) := by decide +kernel
theorem dX4_takes_5 : decode cX4_takes 5 = .ok (.ifCond .ne 8, 3) := by decide +kernel
theorem dX4_takes_8 : decode cX4_takes 8 = .ok (.aload_n 0, 1) := by decide +kernel
theorem dX4_takes_9 : decode cX4_takes 9 = .ok (.invokevirtual 98, 3) := by decide +kernel
theorem dX4_takes_12 : decode cX4_takes 12 = .ok (.ireturn, 1) := by decide +kernel
theorem dX4_takes_13 : decode cX4_takes 13 = .ok (.aload_n 0, 1) := by decide +kernel
theorem dX4_takes_14 : decode cX4_takes 14 = .ok (.invokevirtual 88, 3) := by decide +kernel
theorem dX4_takes_17 : decode cX4_takes 17 = .ok (.iconst 1, 1) := by decide +kernel
theorem dX4_takes_18 : decode cX4_takes 18 = .ok (.ireturn, 1) := by decide +kernel
abbrev MX4_takes : MI := (RX4, cX4_takes, 2, 3, false)
def bX4_takes : St := (seqS (ifS (notX (ne0 (calX decI (ckV 4 1) mX4_isSign (agC va_rf (lvR 0) (agC Value.int (lvI 1) agN))))) (retI (calX decI (ckV 4 0) mX4_isWrong (agC va_rf (lvR 0) agN)))) (seqS (calS (ckV 4 0) mX4_goOn (agC va_rf (lvR 0) agN)) (retI (ciI (iI 1)))))
theorem jX4_takes : JS MX4_takes 0 0 0 19 [] bX4_takes :=
  (JS.seq (pc1 := 13) (JS.iff (l := 13) (pc1 := 8) (CJ.not_f (CJ.ne0_t (tgt := 13) (pc1 := 5) (JX.call (pc1 := 2) decI_ok (JA.r (JX.al (k := 0) rfl dX4_takes_0) (JA.i (JX.il (k := 1) rfl dX4_takes_1) JA.nil)) aX4_isSign (RunK.V (i := 140) (c := 4) (n := 1) cl4 rfl (CN nX4_isSign (by decide) (by decide)) gw719 gw721 gs21 dX4_takes_2) (by decide)) dX4_takes_5 rfl)) (JS.retI (pc1 := 12) (JX.call (pc1 := 9) decI_ok (JA.r (JX.al (k := 0) rfl dX4_takes_8) JA.nil) aX4_isWrong (RunK.V (i := 98) (c := 4) (n := 0) cl4 rfl (CN nX4_isWrong (by decide) (by decide)) gw670 gw672 gs11 dX4_takes_9) (by decide)) dX4_takes_12) (Or.inl rfl)) (JS.seq (pc1 := 17) (JS.call (pc1 := 14) (JA.r (JX.al (k := 0) rfl dX4_takes_13) JA.nil) aX4_goOn (RunK.V (i := 88) (c := 4) (n := 0) cl4 rfl (CN nX4_goOn (by decide) (by decide)) gw658 gw660 gs8 dX4_takes_14)) (JS.retI (pc1 := 18) (JX.ic (n := 1) rfl dX4_takes_17) dX4_takes_18)))
def mX4_takes : MS := runM 2 (some (.boolean)) bX4_takes
theorem aX4_takes : MA yX4_takes cX4_takes 2 (some (.boolean)) 3 mX4_takes := MA.of (plainFor_of_name (by decide)) jX4_takes
theorem eX4_takes (a0 : Nat) (a1 : Int32) (h : AH) : mX4_takes [.ref a0, .int a1] h = (bX4_takes [.val (.ref a0), .val (.int a1)] h).bind (finM (some (.boolean))) := rfl
/-! Reader.tellsNumber -/
theorem dX4_tellsNumber_0 : decode cX4_tellsNumber 0 = .ok (.aload_n 0, 1) := by decide +kernel
theorem dX4_tellsNumber_1 : decode cX4_tellsNumber 1 = .ok (.invokevirtual 88, 3) := by decide +kernel
theorem dX4_tellsNumber_4 : decode cX4_tellsNumber 4 = .ok (.aload_n 0, 1) := by decide +kernel
theorem dX4_tellsNumber_5 : decode cX4_tellsNumber 5 = .ok (.getfield 31, 3) := by decide +kernel
theorem dX4_tellsNumber_8 : decode cX4_tellsNumber 8 = .ok (.iconst 2, 1) := by decide +kernel
theorem dX4_tellsNumber_9 : decode cX4_tellsNumber 9 = .ok (.if_icmp .ne 23, 3) := by decide +kernel
theorem dX4_tellsNumber_12 : decode cX4_tellsNumber 12 = .ok (.iload_n 2, 1) := by decide +kernel
theorem dX4_tellsNumber_13 : decode cX4_tellsNumber 13 = .ok (.ifCond .lt 19, 3) := by decide +kernel
theorem dX4_tellsNumber_16 : decode cX4_tellsNumber 16 = .ok (.iload_n 2, 1) := by decide +kernel
theorem dX4_tellsNumber_17 : decode cX4_tellsNumber 17 = .ok (.getstatic 153, 3) := by decide +kernel
theorem dX4_tellsNumber_20 : decode cX4_tellsNumber 20 = .ok (.arraylength, 1) := by decide +kernel
theorem dX4_tellsNumber_21 : decode cX4_tellsNumber 21 = .ok (.if_icmp .ge 11, 3) := by decide +kernel
theorem dX4_tellsNumber_24 : decode cX4_tellsNumber 24 = .ok (.iload_n 2, 1) := by decide +kernel
theorem dX4_tellsNumber_25 : decode cX4_tellsNumber 25 = .ok (.getstatic 157, 3) := by decide +kernel
theorem dX4_tellsNumber_28 : decode cX4_tellsNumber 28 = .ok (.arraylength, 1) := by decide +kernel
theorem dX4_tellsNumber_29 : decode cX4_tellsNumber 29 = .ok (.if_icmp .lt 8, 3) := by decide +kernel
theorem dX4_tellsNumber_32 : decode cX4_tellsNumber 32 = .ok (.aload_n 0, 1) := by decide +kernel
theorem dX4_tellsNumber_33 : decode cX4_tellsNumber 33 = .ok (.invokevirtual 98, 3) := by decide +kernel
theorem dX4_tellsNumber_36 : decode cX4_tellsNumber 36 = .ok (.ireturn, 1) := by decide +kernel
theorem dX4_tellsNumber_37 : decode cX4_tellsNumber 37 = .ok (.aload_n 0, 1) := by decide +kernel
theorem dX4_tellsNumber_38 : decode cX4_tellsNumber 38 = .ok (.getfield 34, 3) := by decide +kernel
theorem dX4_tellsNumber_41 : decode cX4_tellsNumber 41 = .ok (.getstatic 153, 3) := by decide +kernel
theorem dX4_tellsNumber_44 : decode cX4_tellsNumber 44 = .ok (.iload_n 2, 1) := by decide +kernel
theorem dX4_tellsNumber_45 : decode cX4_tellsNumber 45 = .ok (.iaload, 1) := by decide +kernel
theorem dX4_tellsNumber_46 : decode cX4_tellsNumber 46 = .ok (.if_icmp .lt 15, 3) := by decide +kernel
theorem dX4_tellsNumber_49 : decode cX4_tellsNumber 49 = .ok (.aload_n 0, 1) := by decide +kernel
theorem dX4_tellsNumber_50 : decode cX4_tellsNumber 50 = .ok (.getfield 34, 3) := by decide +kernel
theorem dX4_tellsNumber_53 : decode cX4_tellsNumber 53 = .ok (.getstatic 157, 3) := by decide +kernel
theorem dX4_tellsNumber_56 : decode cX4_tellsNumber 56 = .ok (.iload_n 2, 1) := by decide +kernel
theorem dX4_tellsNumber_57 : decode cX4_tellsNumber 57 = .ok (.iaload, 1) := by decide +kernel
theorem dX4_tellsNumber_58 : decode cX4_tellsNumber 58 = .ok (.if_icmp .le 13, 3) := by decide +kernel
theorem dX4_tellsNumber_61 : decode cX4_tellsNumber 61 = .ok (.aload_n 0, 1) := by decide +kernel
theorem dX4_tellsNumber_62 : decode cX4_tellsNumber 62 = .ok (.iconst 4, 1) := by decide +kernel
theorem dX4_tellsNumber_63 : decode cX4_tellsNumber 63 = .ok (.aload_n 0, 1) := by decide +kernel
theorem dX4_tellsNumber_64 : decode cX4_tellsNumber 64 = .ok (.getfield 37, 3) := by decide +kernel
theorem dX4_tellsNumber_67 : decode cX4_tellsNumber 67 = .ok (.invokevirtual 136, 3) := by decide +kernel
theorem dX4_tellsNumber_70 : decode cX4_tellsNumber 70 = .ok (.ireturn, 1) := by decide +kernel
theorem dX4_tellsNumber_71 : decode cX4_tellsNumber 71 = .ok (.aload_n 1, 1) := by decide +kernel
theorem dX4_tellsNumber_72 : decode cX4_tellsNumber 72 = .ok (.getfield 160, 3) := by decide +kernel
theorem dX4_tellsNumber_75 : decode cX4_tellsNumber 75 = .ok (.iload_n 2, 1) := by decide +kernel
theorem dX4_tellsNumber_76 : decode cX4_tellsNumber 76 = .ok (.aload_n 0, 1) := by decide +kernel
theorem dX4_tellsNumber_77 : decode cX4_tellsNumber 77 = .ok (.getfield 34, 3) := by decide +kernel
theorem dX4_tellsNumber_80 : decode cX4_tellsNumber 80 = .ok (.invokevirtual 163, 3) := by decide +kernel
theorem dX4_tellsNumber_83 : decode cX4_tellsNumber 83 = .ok (.aload_n 0, 1) := by decide +kernel
theorem dX4_tellsNumber_84 : decode cX4_tellsNumber 84 = .ok (.invokevirtual 88, 3) := by decide +kernel
theorem dX4_tellsNumber_87 : decode cX4_tellsNumber 87 = .ok (.iconst 1, 1) := by decide +kernel
theorem dX4_tellsNumber_88 : decode cX4_tellsNumber 88 = .ok (.ireturn, 1) := by decide +kernel
abbrev MX4_tellsNumber : MI := (RX4, cX4_tellsNumber, 3, 3, false)
def bX4_tellsNumber : St := (seqS (calS (ckV 4 0) mX4_goOn (agC va_rf (lvR 0) agN)) (seqS (ifS (orX (orX (orX (neI (getI 4 5 (lvR 0)) (ciI (iI 2))) (lt0 (lvI 2))) (geI (lvI 2) (ciI (iI 10)))) (geI (lvI 2) (ciI (iI 10)))) (retI (calX decI (ckV 4 0) mX4_isWrong (agC va_rf (lvR 0) agN)))) (seqS (ifS (orX (ltI (getI 4 6 (lvR 0)) (stI nLst (lvI 2))) (gtI (getI 4 6 (lvR 0)) (stI nMst (lvI 2)))) (retI (calX decI (ckV 4 2) mX4_fails (agC va_rf (lvR 0) (agC Value.int (ciI (iI 4)) (agC Value.int (getI 4 7 (lvR 0)) agN)))))) (seqS (calS (ckV 5 2) mX5_put (agC va_rf (getR 6 0 (lvR 1)) (agC Value.int (lvI 2) (agC Value.int (getI 4 6 (lvR 0)) agN)))) (seqS (calS (ckV 4 0) mX4_goOn (agC va_rf (lvR 0) agN)) (retI (ciI (iI 1))))))))
theorem jX4_tellsNumber : JS MX4_tellsNumber 0 0 0 89 [] bX4_tellsNumber :=
  (JS.seq (pc1 := 4) (JS.call (pc1 := 1) (JA.r (JX.al (k := 0) rfl dX4_tellsNumber_0) JA.nil) aX4_goOn (RunK.V (i := 88) (c := 4) (n := 0) cl4 rfl (CN nX4_goOn (by decide) (by decide)) gw658 gw660 gs8 dX4_tellsNumber_1)) (JS.seq (pc1 := 37) (JS.iff (l := 37) (pc1 := 32) (CJ.or_f (l := 32) (pc1 := 24) (CJ.or_t (pc1 := 16) (CJ.or_t (pc1 := 12) (CJ.ne_t (tgt := 32) (pc1 := 8) (pc2 := 9) (JX.getI (pc1 := 5) (c := 4) (k := 5) (i := 31) (JX.al (k := 0) rfl dX4_tellsNumber_4) cl4 (by decide) rfl fk4_31 dX4_tellsNumber_5) (JX.ic (n := 2) rfl dX4_tellsNumber_8) dX4_tellsNumber_9 rfl) (CJ.lt0_t (tgt := 32) (pc1 := 13) (JX.il (k := 2) rfl dX4_tellsNumber_12) dX4_tellsNumber_13 rfl)) (CJ.ge_t (tgt := 32) (pc1 := 17) (pc2 := 21) (JX.il (k := 2) rfl dX4_tellsNumber_16) (JX.stl st0 (i := 153) nw678 dX4_tellsNumber_17 dX4_tellsNumber_20) dX4_tellsNumber_21 rfl)) (CJ.ge_f (tgt := 37) (pc1 := 25) (pc2 := 29) (JX.il (k := 2) rfl dX4_tellsNumber_24) (JX.stl st1' (i := 157) nw680 dX4_tellsNumber_25 dX4_tellsNumber_28) dX4_tellsNumber_29 rfl) (Or.inl rfl)) (JS.retI (pc1 := 36) (JX.call (pc1 := 33) decI_ok (JA.r (JX.al (k := 0) rfl dX4_tellsNumber_32) JA.nil) aX4_isWrong (RunK.V (i := 98) (c := 4) (n := 0) cl4 rfl (CN nX4_isWrong (by decide) (by decide)) gw670 gw672 gs11 dX4_tellsNumber_33) (by decide)) dX4_tellsNumber_36) (Or.inl rfl)) (JS.seq (pc1 := 71) (JS.iff (l := 71) (pc1 := 61) (CJ.or_f (l := 61) (pc1 := 49) (CJ.lt_t (tgt := 61) (pc1 := 41) (pc2 := 46) (JX.getI (pc1 := 38) (c := 4) (k := 6) (i := 34) (JX.al (k := 0) rfl dX4_tellsNumber_37) cl4 (by decide) rfl fk4_34 dX4_tellsNumber_38) (JX.sta st0 (i := 153) (k := 2) rfl nw678 dX4_tellsNumber_41 dX4_tellsNumber_44 dX4_tellsNumber_45) dX4_tellsNumber_46 rfl) (CJ.gt_f (tgt := 71) (pc1 := 53) (pc2 := 58) (JX.getI (pc1 := 50) (c := 4) (k := 6) (i := 34) (JX.al (k := 0) rfl dX4_tellsNumber_49) cl4 (by decide) rfl fk4_34 dX4_tellsNumber_50) (JX.sta st1' (i := 157) (k := 2) rfl nw680 dX4_tellsNumber_53 dX4_tellsNumber_56 dX4_tellsNumber_57) dX4_tellsNumber_58 rfl) (Or.inl rfl)) (JS.retI (pc1 := 70) (JX.call (pc1 := 67) decI_ok (JA.r (JX.al (k := 0) rfl dX4_tellsNumber_61) (JA.i (JX.ic (n := 4) rfl dX4_tellsNumber_62) (JA.i (JX.getI (pc1 := 64) (c := 4) (k := 7) (i := 37) (JX.al (k := 0) rfl dX4_tellsNumber_63) cl4 (by decide) rfl fk4_37 dX4_tellsNumber_64) JA.nil))) aX4_fails (RunK.V (i := 136) (c := 4) (n := 2) cl4 rfl (CN nX4_fails (by decide) (by decide)) gw666 gw668 gs10 dX4_tellsNumber_67) (by decide)) dX4_tellsNumber_70) (Or.inl rfl)) (JS.seq (pc1 := 83) (JS.call (pc1 := 80) (JA.r (JX.getR (pc1 := 72) (c := 6) (k := 0) (i := 160) (JX.al (k := 1) rfl dX4_tellsNumber_71) cl6 (by decide) rfl fk4_160 dX4_tellsNumber_72) (JA.i (JX.il (k := 2) rfl dX4_tellsNumber_75) (JA.i (JX.getI (pc1 := 77) (c := 4) (k := 6) (i := 34) (JX.al (k := 0) rfl dX4_tellsNumber_76) cl4 (by decide) rfl fk4_34 dX4_tellsNumber_77) JA.nil))) aX5_put (RunK.V (i := 163) (c := 5) (n := 2) cl5 rfl (CN nX5_put (by decide) (by decide)) gw682 gw599 gw600 dX4_tellsNumber_80)) (JS.seq (pc1 := 87) (JS.call (pc1 := 84) (JA.r (JX.al (k := 0) rfl dX4_tellsNumber_83) JA.nil) aX4_goOn (RunK.V (i := 88) (c := 4) (n := 0) cl4 rfl (CN nX4_goOn (by decide) (by decide)) gw658 gw660 gs8 dX4_tellsNumber_84)) (JS.retI (pc1 := 88) (JX.ic (n := 1) rfl dX4_tellsNumber_87) dX4_tellsNumber_88))))))
def mX4_tellsNumber : MS := runM 3 (some (.boolean)) bX4_tellsNumber
theorem aX4_tellsNumber : MA yX4_tellsNumber cX4_tellsNumber 3 (some (.boolean)) 3 mX4_tellsNumber := MA.of (plainFor_of_name (by decide)) jX4_tellsNumber
theorem eX4_tellsNumber (a0 : Nat) (a1 : Nat) (a2 : Int32) (h : AH) : mX4_tellsNumber [.ref a0, .ref a1, .int a2] h = (bX4_tellsNumber [.val (.ref a0), .val (.ref a1), .val (.int a2)] h).bind (finM (some (.boolean))) := rfl
/-! Reader.adds -/
theorem dX4_adds_0 : decode cX4_adds 0 = .ok (.aload_n 0, 1) := by decide +kernel
theorem dX4_adds_1 : decode cX4_adds 1 = .ok (.getfield 49, 3) := by decide +kernel
theorem dX4_adds_4 : decode cX4_adds 4 = .ok (.getfield 171, 3) := by decide +kernel
theorem dX4_adds_7 : decode cX4_adds 7 = .ok (.iload_n 1, 1) := by decide +kernel
theorem dX4_adds_8 : decode cX4_adds 8 = .ok (.invokevirtual 63, 3) := by decide +kernel
theorem dX4_adds_11 : decode cX4_adds 11 = .ok (.iconst 1, 1) := by decide +kernel
theorem dX4_adds_12 : decode cX4_adds 12 = .ok (.ireturn, 1) := by decide +kernel
abbrev MX4_adds : MI := (RX4, cX4_adds, 2, 3, false)
def bX4_adds : St := (seqS (calS (ckV 5 1) mX5_add (agC va_rf (getR 0 0 (getR 4 10 (lvR 0))) (agC Value.int (lvI 1) agN))) (retI (ciI (iI 1))))
theorem jX4_adds : JS MX4_adds 0 0 0 13 [] bX4_adds :=
  (JS.seq (pc1 := 11) (JS.call (pc1 := 8) (JA.r (JX.getR (pc1 := 4) (c := 0) (k := 0) (i := 171) (JX.getR (pc1 := 1) (c := 4) (k := 10) (i := 49) (JX.al (k := 0) rfl dX4_adds_0) cl4 (by decide) rfl fk4_49 dX4_adds_1) cl0 (by decide) rfl fk4_171 dX4_adds_4) (JA.i (JX.il (k := 1) rfl dX4_adds_7) JA.nil)) aX5_add (RunK.V (i := 63) (c := 5) (n := 1) cl5 rfl (CN nX5_add (by decide) (by decide)) gw120 gw121 gw122 dX4_adds_8)) (JS.retI (pc1 := 12) (JX.ic (n := 1) rfl dX4_adds_11) dX4_adds_12))
def mX4_adds : MS := runM 2 (some (.boolean)) bX4_adds
theorem aX4_adds : MA yX4_adds cX4_adds 2 (some (.boolean)) 3 mX4_adds := MA.of (plainFor_of_name (by decide)) jX4_adds
theorem eX4_adds (a0 : Nat) (a1 : Int32) (h : AH) : mX4_adds [.ref a0, .int a1] h = (bX4_adds [.val (.ref a0), .val (.int a1)] h).bind (finM (some (.boolean))) := rfl
/-! Reader.isWord -/
theorem dX4_isWord_0 : decode cX4_isWord 0 = .ok (.aload_n 0, 1) := by decide +kernel
theorem dX4_isWord_1 : decode cX4_isWord 1 = .ok (.getfield 31, 3) := by decide +kernel
theorem dX4_isWord_4 : decode cX4_isWord 4 = .ok (.iconst 1, 1) := by decide +kernel
theorem dX4_isWord_5 : decode cX4_isWord 5 = .ok (.if_icmp .ne 15, 3) := by decide +kernel
theorem dX4_isWord_8 : decode cX4_isWord 8 = .ok (.aload_n 0, 1) := by decide +kernel
theorem dX4_isWord_9 : decode cX4_isWord 9 = .ok (.getfield 34, 3) := by decide +kernel
theorem dX4_isWord_12 : decode cX4_isWord 12 = .ok (.iload_n 1, 1) := by decide +kernel
theorem dX4_isWord_13 : decode cX4_isWord 13 = .ok (.if_icmp .ne 7, 3) := by decide +kernel
theorem dX4_isWord_16 : decode cX4_isWord 16 = .ok (.iconst 1, 1) := by decide +kernel
theorem dX4_isWord_17 : decode cX4_isWord 17 = .ok (.goto 4, 3) := by decide +kernel
theorem dX4_isWord_20 : decode cX4_isWord 20 = .ok (.iconst 0, 1) := by decide +kernel
theorem dX4_isWord_21 : decode cX4_isWord 21 = .ok (.ireturn, 1) := by decide +kernel
abbrev MX4_isWord : MI := (RX4, cX4_isWord, 2, 1, false)
def bX4_isWord : St := (retI (iteX (andX (eqI (getI 4 5 (lvR 0)) (ciI (iI 1))) (eqI (getI 4 6 (lvR 0)) (lvI 1))) (ciI (iI 1)) (ciI (iI 0))))
theorem jX4_isWord : JS MX4_isWord 0 0 0 22 [] bX4_isWord :=
  (JS.retI (pc1 := 21) (JX.ite (l := 20) (pc1 := 16) (pc2 := 17) (pc3 := 21) (lend := 21) (CJ.and_f (pc1 := 8) (CJ.eq_f (tgt := 20) (pc1 := 4) (pc2 := 5) (JX.getI (pc1 := 1) (c := 4) (k := 5) (i := 31) (JX.al (k := 0) rfl dX4_isWord_0) cl4 (by decide) rfl fk4_31 dX4_isWord_1) (JX.ic (n := 1) rfl dX4_isWord_4) dX4_isWord_5 rfl) (CJ.eq_f (tgt := 20) (pc1 := 12) (pc2 := 13) (JX.getI (pc1 := 9) (c := 4) (k := 6) (i := 34) (JX.al (k := 0) rfl dX4_isWord_8) cl4 (by decide) rfl fk4_34 dX4_isWord_9) (JX.il (k := 1) rfl dX4_isWord_12) dX4_isWord_13 rfl)) (JX.ic (n := 1) rfl dX4_isWord_16) dX4_isWord_17 rfl (JX.ic (n := 0) rfl dX4_isWord_20) (Or.inl rfl)) dX4_isWord_21)
def mX4_isWord : MS := runM 2 (some (.boolean)) bX4_isWord
theorem aX4_isWord : MA yX4_isWord cX4_isWord 2 (some (.boolean)) 1 mX4_isWord := MA.of (plainFor_of_name (by decide)) jX4_isWord
theorem eX4_isWord (a0 : Nat) (a1 : Int32) (h : AH) : mX4_isWord [.ref a0, .int a1] h = (bX4_isWord [.val (.ref a0), .val (.int a1)] h).bind (finM (some (.boolean))) := rfl
/-! Reader.closes -/
theorem dX4_closes_0 : decode cX4_closes 0 = .ok (.aload_n 0, 1) := by decide +kernel
theorem dX4_closes_1 : decode cX4_closes 1 = .ok (.dup, 1) := by decide +kernel
theorem dX4_closes_2 : decode cX4_closes 2 = .ok (.getfield 40, 3) := by decide +kernel
theorem dX4_closes_5 : decode cX4_closes 5 = .ok (.iconst 1, 1) := by decide +kernel
theorem dX4_closes_6 : decode cX4_closes 6 = .ok (.isub, 1) := by decide +kernel
theorem dX4_closes_7 : decode cX4_closes 7 = .ok (.putfield 40, 3) := by decide +kernel
theorem dX4_closes_10 : decode cX4_closes 10 = .ok (.iconst 1, 1) := by decide +kernel
theorem dX4_closes_11 : decode cX4_closes 11 = .ok (.ireturn, 1) := by decide +kernel
abbrev MX4_closes : MI := (RX4, cX4_closes, 1, 1, false)
def bX4_closes : St := (seqS (updI 4 8 (fun x y => x - y) (lvR 0) (ciI (iI 1))) (retI (ciI (iI 1))))
theorem jX4_closes : JS MX4_closes 0 0 0 12 [] bX4_closes :=
  (JS.seq (pc1 := 10) (JS.upS (pc1 := 1) (pc2 := 6) (c := 4) (k := 8) (i := 40) (JX.al (k := 0) rfl dX4_closes_0) dX4_closes_1 cl4 (by decide) rfl fk4_40 (Or.inl rfl) dX4_closes_2 (JX.ic (n := 1) rfl dX4_closes_5) dX4_closes_6 dX4_closes_7) (JS.retI (pc1 := 11) (JX.ic (n := 1) rfl dX4_closes_10) dX4_closes_11))
def mX4_closes : MS := runM 1 (some (.boolean)) bX4_closes
theorem aX4_closes : MA yX4_closes cX4_closes 1 (some (.boolean)) 1 mX4_closes := MA.of (plainFor_of_name (by decide)) jX4_closes
theorem eX4_closes (a0 : Nat) (h : AH) : mX4_closes [.ref a0] h = (bX4_closes [.val (.ref a0)] h).bind (finM (some (.boolean))) := rfl
/-! Reader.opens -/
theorem dX4_opens_0 : decode cX4_opens 0 = .ok (.aload_n 0, 1) := by decide +kernel
theorem dX4_opens_1 : decode cX4_opens 1 = .ok (.getfield 40, 3) := by decide +kernel
theorem dX4_opens_4 : decode cX4_opens 4 = .ok (.bipush 7, 2) := by decide +kernel
theorem dX4_opens_6 : decode cX4_opens 6 = .ok (.if_icmp .ne 13, 3) := by decide +kernel
theorem dX4_opens_9 : decode cX4_opens 9 = .ok (.aload_n 0, 1) := by decide +kernel
theorem dX4_opens_10 : decode cX4_opens 10 = .ok (.iconst 5, 1) := by decide +kernel
theorem dX4_opens_11 : decode cX4_opens 11 = .ok (.aload_n 0, 1) := by decide +kernel
theorem dX4_opens_12 : decode cX4_opens 12 = .ok (.getfield 37, 3) := by decide +kernel
theorem dX4_opens_15 : decode cX4_opens 15 = .ok (.invokevirtual 136, 3) := by decide +kernel
theorem dX4_opens_18 : decode cX4_opens 18 = .ok (.ireturn, 1) := by decide +kernel
theorem dX4_opens_19 : decode cX4_opens 19 = .ok (.aload_n 0, 1) := by decide +kernel
theorem dX4_opens_20 : decode cX4_opens 20 = .ok (.dup, 1) := by decide +kernel
theorem dX4_opens_21 : decode cX4_opens 21 = .ok (.getfield 40, 3) := by decide +kernel
theorem dX4_opens_24 : decode cX4_opens 24 = .ok (.iconst 1, 1) := by decide +kernel
theorem dX4_opens_25 : decode cX4_opens 25 = .ok (.iadd, 1) := by decide +kernel
theorem dX4_opens_26 : decode cX4_opens 26 = .ok (.putfield 40, 3) := by decide +kernel
theorem dX4_opens_29 : decode cX4_opens 29 = .ok (.aload_n 0, 1) := by decide +kernel
theorem dX4_opens_30 : decode cX4_opens 30 = .ok (.invokevirtual 88, 3) := by decide +kernel
theorem dX4_opens_33 : decode cX4_opens 33 = .ok (.iconst 1, 1) := by decide +kernel
theorem dX4_opens_34 : decode cX4_opens 34 = .ok (.ireturn, 1) := by decide +kernel
abbrev MX4_opens : MI := (RX4, cX4_opens, 1, 3, false)
def bX4_opens : St := (seqS (ifS (eqI (getI 4 8 (lvR 0)) (ciI (iI 7))) (retI (calX decI (ckV 4 2) mX4_fails (agC va_rf (lvR 0) (agC Value.int (ciI (iI 5)) (agC Value.int (getI 4 7 (lvR 0)) agN)))))) (seqS (updI 4 8 (fun x y => x + y) (lvR 0) (ciI (iI 1))) (seqS (calS (ckV 4 0) mX4_goOn (agC va_rf (lvR 0) agN)) (retI (ciI (iI 1))))))
theorem jX4_opens : JS MX4_opens 0 0 0 35 [] bX4_opens :=
  (JS.seq (pc1 := 19) (JS.iff (l := 19) (pc1 := 9) (CJ.eq_f (tgt := 19) (pc1 := 4) (pc2 := 6) (JX.getI (pc1 := 1) (c := 4) (k := 8) (i := 40) (JX.al (k := 0) rfl dX4_opens_0) cl4 (by decide) rfl fk4_40 dX4_opens_1) (JX.bp (n := 7) kb7 dX4_opens_4) dX4_opens_6 rfl) (JS.retI (pc1 := 18) (JX.call (pc1 := 15) decI_ok (JA.r (JX.al (k := 0) rfl dX4_opens_9) (JA.i (JX.ic (n := 5) rfl dX4_opens_10) (JA.i (JX.getI (pc1 := 12) (c := 4) (k := 7) (i := 37) (JX.al (k := 0) rfl dX4_opens_11) cl4 (by decide) rfl fk4_37 dX4_opens_12) JA.nil))) aX4_fails (RunK.V (i := 136) (c := 4) (n := 2) cl4 rfl (CN nX4_fails (by decide) (by decide)) gw666 gw668 gs10 dX4_opens_15) (by decide)) dX4_opens_18) (Or.inl rfl)) (JS.seq (pc1 := 29) (JS.upA (pc1 := 20) (pc2 := 25) (c := 4) (k := 8) (i := 40) (JX.al (k := 0) rfl dX4_opens_19) dX4_opens_20 cl4 (by decide) rfl fk4_40 (Or.inl rfl) dX4_opens_21 (JX.ic (n := 1) rfl dX4_opens_24) dX4_opens_25 dX4_opens_26) (JS.seq (pc1 := 33) (JS.call (pc1 := 30) (JA.r (JX.al (k := 0) rfl dX4_opens_29) JA.nil) aX4_goOn (RunK.V (i := 88) (c := 4) (n := 0) cl4 rfl (CN nX4_goOn (by decide) (by decide)) gw658 gw660 gs8 dX4_opens_30)) (JS.retI (pc1 := 34) (JX.ic (n := 1) rfl dX4_opens_33) dX4_opens_34))))
def mX4_opens : MS := runM 1 (some (.boolean)) bX4_opens
theorem aX4_opens : MA yX4_opens cX4_opens 1 (some (.boolean)) 3 mX4_opens := MA.of (plainFor_of_name (by decide)) jX4_opens
theorem eX4_opens (a0 : Nat) (h : AH) : mX4_opens [.ref a0] h = (bX4_opens [.val (.ref a0)] h).bind (finM (some (.boolean))) := rfl
/-! Reader.isFact -/
theorem dX4_isFact_0 : decode cX4_isFact 0 = .ok (.iload_n 1, 1) := by decide +kernel
theorem dX4_isFact_1 : decode cX4_isFact 1 = .ok (.tableswitch 162 3 21 #[93, 162, 162, 162, 162, 162, 162, 162, 162, 162, 91, 93, 108, 93, 132, 132, 147, 147, 147], 91) := by decide +kernel
theorem dX4_isFact_92 : decode cX4_isFact 92 = .ok (.iconst 1, 1) := by decide +kernel
theorem dX4_isFact_93 : decode cX4_isFact 93 = .ok (.ireturn, 1) := by decide +kernel
theorem dX4_isFact_94 : decode cX4_isFact 94 = .ok (.aload_n 0, 1) := by decide +kernel
theorem dX4_isFact_95 : decode cX4_isFact 95 = .ok (.getfield 43, 3) := by decide +kernel
theorem dX4_isFact_98 : decode cX4_isFact 98 = .ok (.bipush 10, 2) := by decide +kernel
theorem dX4_isFact_100 : decode cX4_isFact 100 = .ok (.if_icmp .ne 7, 3) := by decide +kernel
theorem dX4_isFact_103 : decode cX4_isFact 103 = .ok (.iconst 1, 1) := by decide +kernel
theorem dX4_isFact_104 : decode cX4_isFact 104 = .ok (.goto 4, 3) := by decide +kernel
theorem dX4_isFact_107 : decode cX4_isFact 107 = .ok (.iconst 0, 1) := by decide +kernel
theorem dX4_isFact_108 : decode cX4_isFact 108 = .ok (.ireturn, 1) := by decide +kernel
theorem dX4_isFact_109 : decode cX4_isFact 109 = .ok (.aload_n 0, 1) := by decide +kernel
theorem dX4_isFact_110 : decode cX4_isFact 110 = .ok (.getfield 43, 3) := by decide +kernel
theorem dX4_isFact_113 : decode cX4_isFact 113 = .ok (.bipush 10, 2) := by decide +kernel
theorem dX4_isFact_115 : decode cX4_isFact 115 = .ok (.if_icmp .eq 12, 3) := by decide +kernel
theorem dX4_isFact_118 : decode cX4_isFact 118 = .ok (.aload_n 0, 1) := by decide +kernel
theorem dX4_isFact_119 : decode cX4_isFact 119 = .ok (.getfield 43, 3) := by decide +kernel
theorem dX4_isFact_122 : decode cX4_isFact 122 = .ok (.bipush 11, 2) := by decide +kernel
theorem dX4_isFact_124 : decode cX4_isFact 124 = .ok (.if_icmp .ne 7, 3) := by decide +kernel
theorem dX4_isFact_127 : decode cX4_isFact 127 = .ok (.iconst 1, 1) := by decide +kernel
theorem dX4_isFact_128 : decode cX4_isFact 128 = .ok (.goto 4, 3) := by decide +kernel
theorem dX4_isFact_131 : decode cX4_isFact 131 = .ok (.iconst 0, 1) := by decide +kernel
theorem dX4_isFact_132 : decode cX4_isFact 132 = .ok (.ireturn, 1) := by decide +kernel
theorem dX4_isFact_133 : decode cX4_isFact 133 = .ok (.aload_n 0, 1) := by decide +kernel
theorem dX4_isFact_134 : decode cX4_isFact 134 = .ok (.getfield 43, 3) := by decide +kernel
theorem dX4_isFact_137 : decode cX4_isFact 137 = .ok (.bipush 11, 2) := by decide +kernel
theorem dX4_isFact_139 : decode cX4_isFact 139 = .ok (.if_icmp .ne 7, 3) := by decide +kernel
theorem dX4_isFact_142 : decode cX4_isFact 142 = .ok (.iconst 1, 1) := by decide +kernel
theorem dX4_isFact_143 : decode cX4_isFact 143 = .ok (.goto 4, 3) := by decide +kernel
theorem dX4_isFact_146 : decode cX4_isFact 146 = .ok (.iconst 0, 1) := by decide +kernel
theorem dX4_isFact_147 : decode cX4_isFact 147 = .ok (.ireturn, 1) := by decide +kernel
theorem dX4_isFact_148 : decode cX4_isFact 148 = .ok (.aload_n 0, 1) := by decide +kernel
theorem dX4_isFact_149 : decode cX4_isFact 149 = .ok (.getfield 43, 3) := by decide +kernel
theorem dX4_isFact_152 : decode cX4_isFact 152 = .ok (.bipush 12, 2) := by decide +kernel
theorem dX4_isFact_154 : decode cX4_isFact 154 = .ok (.if_icmp .ne 7, 3) := by decide +kernel
theorem dX4_isFact_157 : decode cX4_isFact 157 = .ok (.iconst 1, 1) := by decide +kernel
theorem dX4_isFact_158 : decode cX4_isFact 158 = .ok (.goto 4, 3) := by decide +kernel
theorem dX4_isFact_161 : decode cX4_isFact 161 = .ok (.iconst 0, 1) := by decide +kernel
theorem dX4_isFact_162 : decode cX4_isFact 162 = .ok (.ireturn, 1) := by decide +kernel
theorem dX4_isFact_163 : decode cX4_isFact 163 = .ok (.iconst 0, 1) := by decide +kernel
theorem dX4_isFact_164 : decode cX4_isFact 164 = .ok (.ireturn, 1) := by decide +kernel
abbrev MX4_isFact : MI := (RX4, cX4_isFact, 2, 1, false)
def swX4_isFact_1 (x : Int32) : St := if x = iI 13 then (retI (ciI (iI 1))) else if x = iI 14 then (retI (iteX (eqI (getI 4 9 (lvR 0)) (ciI (iI 10))) (ciI (iI 1)) (ciI (iI 0)))) else if x = iI 16 then (retI (iteX (eqI (getI 4 9 (lvR 0)) (ciI (iI 10))) (ciI (iI 1)) (ciI (iI 0)))) else if x = iI 3 then (retI (iteX (eqI (getI 4 9 (lvR 0)) (ciI (iI 10))) (ciI (iI 1)) (ciI (iI 0)))) else if x = iI 15 then (retI (iteX (orX (eqI (getI 4 9 (lvR 0)) (ciI (iI 10))) (eqI (getI 4 9 (lvR 0)) (ciI (iI 11)))) (ciI (iI 1)) (ciI (iI 0)))) else if x = iI 17 then (retI (iteX (eqI (getI 4 9 (lvR 0)) (ciI (iI 11))) (ciI (iI 1)) (ciI (iI 0)))) else if x = iI 18 then (retI (iteX (eqI (getI 4 9 (lvR 0)) (ciI (iI 11))) (ciI (iI 1)) (ciI (iI 0)))) else if x = iI 19 then (retI (iteX (eqI (getI 4 9 (lvR 0)) (ciI (iI 12))) (ciI (iI 1)) (ciI (iI 0)))) else if x = iI 20 then (retI (iteX (eqI (getI 4 9 (lvR 0)) (ciI (iI 12))) (ciI (iI 1)) (ciI (iI 0)))) else if x = iI 21 then (retI (iteX (eqI (getI 4 9 (lvR 0)) (ciI (iI 12))) (ciI (iI 1)) (ciI (iI 0)))) else (retI (ciI (iI 0)))
def bX4_isFact : St := (swS (lvI 1) swX4_isFact_1)
theorem swX4_isFact_1_ok : ∀ x, ∃ tgt pcx, TSw MX4_isFact.2.1 1 x tgt ∧ JS MX4_isFact 165 0 tgt pcx [] (swX4_isFact_1 x) ∧ Dead (swX4_isFact_1 x) := by
  intro x
  unfold swX4_isFact_1
  by_cases h13 : x = iI 13
  · subst h13
    rw [if_pos rfl]
    refine ⟨92, 94, ?_, (JS.retI (pc1 := 93) (JX.ic (n := 1) rfl dX4_isFact_92) dX4_isFact_93), dead_retI⟩
    exact TSw.tab_in (off := 91) dX4_isFact_1 (by decide) (by decide) rfl rfl
  by_cases h14 : x = iI 14
  · subst h14
    rw [if_neg (by decide)]
    rw [if_pos rfl]
    refine ⟨94, 109, ?_, (JS.retI (pc1 := 108) (JX.ite (l := 107) (pc1 := 103) (pc2 := 104) (pc3 := 108) (lend := 108) (CJ.eq_f (tgt := 107) (pc1 := 98) (pc2 := 100) (JX.getI (pc1 := 95) (c := 4) (k := 9) (i := 43) (JX.al (k := 0) rfl dX4_isFact_94) cl4 (by decide) rfl fk4_43 dX4_isFact_95) (JX.bp (n := 10) kb10 dX4_isFact_98) dX4_isFact_100 rfl) (JX.ic (n := 1) rfl dX4_isFact_103) dX4_isFact_104 rfl (JX.ic (n := 0) rfl dX4_isFact_107) (Or.inl rfl)) dX4_isFact_108), dead_retI⟩
    exact TSw.tab_in (off := 93) dX4_isFact_1 (by decide) (by decide) rfl rfl
  by_cases h16 : x = iI 16
  · subst h16
    rw [if_neg (by decide)]
    rw [if_neg (by decide)]
    rw [if_pos rfl]
    refine ⟨94, 109, ?_, (JS.retI (pc1 := 108) (JX.ite (l := 107) (pc1 := 103) (pc2 := 104) (pc3 := 108) (lend := 108) (CJ.eq_f (tgt := 107) (pc1 := 98) (pc2 := 100) (JX.getI (pc1 := 95) (c := 4) (k := 9) (i := 43) (JX.al (k := 0) rfl dX4_isFact_94) cl4 (by decide) rfl fk4_43 dX4_isFact_95) (JX.bp (n := 10) kb10 dX4_isFact_98) dX4_isFact_100 rfl) (JX.ic (n := 1) rfl dX4_isFact_103) dX4_isFact_104 rfl (JX.ic (n := 0) rfl dX4_isFact_107) (Or.inl rfl)) dX4_isFact_108), dead_retI⟩
    exact TSw.tab_in (off := 93) dX4_isFact_1 (by decide) (by decide) rfl rfl
  by_cases h3 : x = iI 3
  · subst h3
    rw [if_neg (by decide)]
    rw [if_neg (by decide)]
    rw [if_neg (by decide)]
    rw [if_pos rfl]
    refine ⟨94, 109, ?_, (JS.retI (pc1 := 108) (JX.ite (l := 107) (pc1 := 103) (pc2 := 104) (pc3 := 108) (lend := 108) (CJ.eq_f (tgt := 107) (pc1 := 98) (pc2 := 100) (JX.getI (pc1 := 95) (c := 4) (k := 9) (i := 43) (JX.al (k := 0) rfl dX4_isFact_94) cl4 (by decide) rfl fk4_43 dX4_isFact_95) (JX.bp (n := 10) kb10 dX4_isFact_98) dX4_isFact_100 rfl) (JX.ic (n := 1) rfl dX4_isFact_103) dX4_isFact_104 rfl (JX.ic (n := 0) rfl dX4_isFact_107) (Or.inl rfl)) dX4_isFact_108), dead_retI⟩
    exact TSw.tab_in (off := 93) dX4_isFact_1 (by decide) (by decide) rfl rfl
  by_cases h15 : x = iI 15
  · subst h15
    rw [if_neg (by decide)]
    rw [if_neg (by decide)]
    rw [if_neg (by decide)]
    rw [if_neg (by decide)]
    rw [if_pos rfl]
    refine ⟨109, 133, ?_, (JS.retI (pc1 := 132) (JX.ite (l := 131) (pc1 := 127) (pc2 := 128) (pc3 := 132) (lend := 132) (CJ.or_f (l := 127) (pc1 := 118) (CJ.eq_t (tgt := 127) (pc1 := 113) (pc2 := 115) (JX.getI (pc1 := 110) (c := 4) (k := 9) (i := 43) (JX.al (k := 0) rfl dX4_isFact_109) cl4 (by decide) rfl fk4_43 dX4_isFact_110) (JX.bp (n := 10) kb10 dX4_isFact_113) dX4_isFact_115 rfl) (CJ.eq_f (tgt := 131) (pc1 := 122) (pc2 := 124) (JX.getI (pc1 := 119) (c := 4) (k := 9) (i := 43) (JX.al (k := 0) rfl dX4_isFact_118) cl4 (by decide) rfl fk4_43 dX4_isFact_119) (JX.bp (n := 11) kb11 dX4_isFact_122) dX4_isFact_124 rfl) (Or.inl rfl)) (JX.ic (n := 1) rfl dX4_isFact_127) dX4_isFact_128 rfl (JX.ic (n := 0) rfl dX4_isFact_131) (Or.inl rfl)) dX4_isFact_132), dead_retI⟩
    exact TSw.tab_in (off := 108) dX4_isFact_1 (by decide) (by decide) rfl rfl
  by_cases h17 : x = iI 17
  · subst h17
    rw [if_neg (by decide)]
    rw [if_neg (by decide)]
    rw [if_neg (by decide)]
    rw [if_neg (by decide)]
    rw [if_neg (by decide)]
    rw [if_pos rfl]
    refine ⟨133, 148, ?_, (JS.retI (pc1 := 147) (JX.ite (l := 146) (pc1 := 142) (pc2 := 143) (pc3 := 147) (lend := 147) (CJ.eq_f (tgt := 146) (pc1 := 137) (pc2 := 139) (JX.getI (pc1 := 134) (c := 4) (k := 9) (i := 43) (JX.al (k := 0) rfl dX4_isFact_133) cl4 (by decide) rfl fk4_43 dX4_isFact_134) (JX.bp (n := 11) kb11 dX4_isFact_137) dX4_isFact_139 rfl) (JX.ic (n := 1) rfl dX4_isFact_142) dX4_isFact_143 rfl (JX.ic (n := 0) rfl dX4_isFact_146) (Or.inl rfl)) dX4_isFact_147), dead_retI⟩
    exact TSw.tab_in (off := 132) dX4_isFact_1 (by decide) (by decide) rfl rfl
  by_cases h18 : x = iI 18
  · subst h18
    rw [if_neg (by decide)]
    rw [if_neg (by decide)]
    rw [if_neg (by decide)]
    rw [if_neg (by decide)]
    rw [if_neg (by decide)]
    rw [if_neg (by decide)]
    rw [if_pos rfl]
    refine ⟨133, 148, ?_, (JS.retI (pc1 := 147) (JX.ite (l := 146) (pc1 := 142) (pc2 := 143) (pc3 := 147) (lend := 147) (CJ.eq_f (tgt := 146) (pc1 := 137) (pc2 := 139) (JX.getI (pc1 := 134) (c := 4) (k := 9) (i := 43) (JX.al (k := 0) rfl dX4_isFact_133) cl4 (by decide) rfl fk4_43 dX4_isFact_134) (JX.bp (n := 11) kb11 dX4_isFact_137) dX4_isFact_139 rfl) (JX.ic (n := 1) rfl dX4_isFact_142) dX4_isFact_143 rfl (JX.ic (n := 0) rfl dX4_isFact_146) (Or.inl rfl)) dX4_isFact_147), dead_retI⟩
    exact TSw.tab_in (off := 132) dX4_isFact_1 (by decide) (by decide) rfl rfl
  by_cases h19 : x = iI 19
  · subst h19
    rw [if_neg (by decide)]
    rw [if_neg (by decide)]
    rw [if_neg (by decide)]
    rw [if_neg (by decide)]
    rw [if_neg (by decide)]
    rw [if_neg (by decide)]
    rw [if_neg (by decide)]
    rw [if_pos rfl]
    refine ⟨148, 163, ?_, (JS.retI (pc1 := 162) (JX.ite (l := 161) (pc1 := 157) (pc2 := 158) (pc3 := 162) (lend := 162) (CJ.eq_f (tgt := 161) (pc1 := 152) (pc2 := 154) (JX.getI (pc1 := 149) (c := 4) (k := 9) (i := 43) (JX.al (k := 0) rfl dX4_isFact_148) cl4 (by decide) rfl fk4_43 dX4_isFact_149) (JX.bp (n := 12) kb12 dX4_isFact_152) dX4_isFact_154 rfl) (JX.ic (n := 1) rfl dX4_isFact_157) dX4_isFact_158 rfl (JX.ic (n := 0) rfl dX4_isFact_161) (Or.inl rfl)) dX4_isFact_162), dead_retI⟩
    exact TSw.tab_in (off := 147) dX4_isFact_1 (by decide) (by decide) rfl rfl
  by_cases h20 : x = iI 20
  · subst h20
    rw [if_neg (by decide)]
    rw [if_neg (by decide)]
    rw [if_neg (by decide)]
    rw [if_neg (by decide)]
    rw [if_neg (by decide)]
    rw [if_neg (by decide)]
    rw [if_neg (by decide)]
    rw [if_neg (by decide)]
    rw [if_pos rfl]
    refine ⟨148, 163, ?_, (JS.retI (pc1 := 162) (JX.ite (l := 161) (pc1 := 157) (pc2 := 158) (pc3 := 162) (lend := 162) (CJ.eq_f (tgt := 161) (pc1 := 152) (pc2 := 154) (JX.getI (pc1 := 149) (c := 4) (k := 9) (i := 43) (JX.al (k := 0) rfl dX4_isFact_148) cl4 (by decide) rfl fk4_43 dX4_isFact_149) (JX.bp (n := 12) kb12 dX4_isFact_152) dX4_isFact_154 rfl) (JX.ic (n := 1) rfl dX4_isFact_157) dX4_isFact_158 rfl (JX.ic (n := 0) rfl dX4_isFact_161) (Or.inl rfl)) dX4_isFact_162), dead_retI⟩
    exact TSw.tab_in (off := 147) dX4_isFact_1 (by decide) (by decide) rfl rfl
  by_cases h21 : x = iI 21
  · subst h21
    rw [if_neg (by decide)]
    rw [if_neg (by decide)]
    rw [if_neg (by decide)]
    rw [if_neg (by decide)]
    rw [if_neg (by decide)]
    rw [if_neg (by decide)]
    rw [if_neg (by decide)]
    rw [if_neg (by decide)]
    rw [if_neg (by decide)]
    rw [if_pos rfl]
    refine ⟨148, 163, ?_, (JS.retI (pc1 := 162) (JX.ite (l := 161) (pc1 := 157) (pc2 := 158) (pc3 := 162) (lend := 162) (CJ.eq_f (tgt := 161) (pc1 := 152) (pc2 := 154) (JX.getI (pc1 := 149) (c := 4) (k := 9) (i := 43) (JX.al (k := 0) rfl dX4_isFact_148) cl4 (by decide) rfl fk4_43 dX4_isFact_149) (JX.bp (n := 12) kb12 dX4_isFact_152) dX4_isFact_154 rfl) (JX.ic (n := 1) rfl dX4_isFact_157) dX4_isFact_158 rfl (JX.ic (n := 0) rfl dX4_isFact_161) (Or.inl rfl)) dX4_isFact_162), dead_retI⟩
    exact TSw.tab_in (off := 147) dX4_isFact_1 (by decide) (by decide) rfl rfl
  rw [if_neg h13]
  rw [if_neg h14]
  rw [if_neg h16]
  rw [if_neg h3]
  rw [if_neg h15]
  rw [if_neg h17]
  rw [if_neg h18]
  rw [if_neg h19]
  rw [if_neg h20]
  rw [if_neg h21]
  refine ⟨163, 165, ?_, (JS.retI (pc1 := 164) (JX.ic (n := 0) rfl dX4_isFact_163) dX4_isFact_164), dead_retI⟩
  exact TSw.tab_out [13, 14, 16, 3, 15, 17, 18, 19, 20, 21] dX4_isFact_1 (by decide) (by decide) (by simp [h13, h14, h16, h3, h15, h17, h18, h19, h20, h21]) rfl
theorem jX4_isFact : JS MX4_isFact 0 0 0 165 [] bX4_isFact :=
  (JS.sw (lend := 165) (pc1 := 1) (pc2 := 165) (JX.il (k := 1) rfl dX4_isFact_0) swX4_isFact_1_ok (Or.inl rfl))
def mX4_isFact : MS := runM 2 (some (.boolean)) bX4_isFact
theorem aX4_isFact : MA yX4_isFact cX4_isFact 2 (some (.boolean)) 1 mX4_isFact := MA.of (plainFor_of_name (by decide)) jX4_isFact
theorem eX4_isFact (a0 : Nat) (a1 : Int32) (h : AH) : mX4_isFact [.ref a0, .int a1] h = (bX4_isFact [.val (.ref a0), .val (.int a1)] h).bind (finM (some (.boolean))) := rfl
/-! the readers of tests and sums: they call one another -/
def gpY : Nat → MethodName
  | 0 => yX4_readTest
  | 1 => yX4_readBoth
  | 2 => yX4_readFact
  | 3 => yX4_readComparison
  | 4 => yX4_readSum
  | 5 => yX4_readProduct
  | 6 => yX4_readPart
  | _ => yX4_readCall
def gpC : Nat → ByteArray
  | 0 => cX4_readTest
  | 1 => cX4_readBoth
  | 2 => cX4_readFact
  | 3 => cX4_readComparison
  | 4 => cX4_readSum
  | 5 => cX4_readProduct
  | 6 => cX4_readPart
  | _ => cX4_readCall
def gpL : Nat → Nat
  | 0 => 3
  | 1 => 3
  | 2 => 1
  | 3 => 2
  | 4 => 4
  | 5 => 4
  | 6 => 2
  | _ => 2
theorem dX4_readTest_0 : decode cX4_readTest 0 = .ok (.aload_n 0, 1) := by decide +kernel
theorem dX4_readTest_1 : decode cX4_readTest 1 = .ok (.invokevirtual 177, 3) := by decide +kernel
theorem dX4_readTest_4 : decode cX4_readTest 4 = .ok (.istore_n 1, 1) := by decide +kernel
theorem dX4_readTest_5 : decode cX4_readTest 5 = .ok (.iconst 0, 1) := by decide +kernel
theorem dX4_readTest_6 : decode cX4_readTest 6 = .ok (.istore_n 2, 1) := by decide +kernel
theorem dX4_readTest_7 : decode cX4_readTest 7 = .ok (.iload_n 2, 1) := by decide +kernel
theorem dX4_readTest_8 : decode cX4_readTest 8 = .ok (.sipush 1600, 3) := by decide +kernel
theorem dX4_readTest_11 : decode cX4_readTest 11 = .ok (.if_icmp .ge 48, 3) := by decide +kernel
theorem dX4_readTest_14 : decode cX4_readTest 14 = .ok (.iload_n 1, 1) := by decide +kernel
theorem dX4_readTest_15 : decode cX4_readTest 15 = .ok (.ifCond .eq 44, 3) := by decide +kernel
theorem dX4_readTest_18 : decode cX4_readTest 18 = .ok (.aload_n 0, 1) := by decide +kernel
theorem dX4_readTest_19 : decode cX4_readTest 19 = .ok (.bipush 28, 2) := by decide +kernel
theorem dX4_readTest_21 : decode cX4_readTest 21 = .ok (.invokevirtual 180, 3) := by decide +kernel
theorem dX4_readTest_24 : decode cX4_readTest 24 = .ok (.ifCond .eq 35, 3) := by decide +kernel
theorem dX4_readTest_27 : decode cX4_readTest 27 = .ok (.aload_n 0, 1) := by decide +kernel
theorem dX4_readTest_28 : decode cX4_readTest 28 = .ok (.invokevirtual 88, 3) := by decide +kernel
theorem dX4_readTest_31 : decode cX4_readTest 31 = .ok (.aload_n 0, 1) := by decide +kernel
theorem dX4_readTest_32 : decode cX4_readTest 32 = .ok (.invokevirtual 177, 3) := by decide +kernel
theorem dX4_readTest_35 : decode cX4_readTest 35 = .ok (.ifCond .eq 16, 3) := by decide +kernel
theorem dX4_readTest_38 : decode cX4_readTest 38 = .ok (.aload_n 0, 1) := by decide +kernel
theorem dX4_readTest_39 : decode cX4_readTest 39 = .ok (.bipush 28, 2) := by decide +kernel
theorem dX4_readTest_41 : decode cX4_readTest 41 = .ok (.invokevirtual 183, 3) := by decide +kernel
theorem dX4_readTest_44 : decode cX4_readTest 44 = .ok (.ifCond .eq 7, 3) := by decide +kernel
theorem dX4_readTest_47 : decode cX4_readTest 47 = .ok (.iconst 1, 1) := by decide +kernel
theorem dX4_readTest_48 : decode cX4_readTest 48 = .ok (.goto 4, 3) := by decide +kernel
theorem dX4_readTest_51 : decode cX4_readTest 51 = .ok (.iconst 0, 1) := by decide +kernel
theorem dX4_readTest_52 : decode cX4_readTest 52 = .ok (.istore_n 1, 1) := by decide +kernel
theorem dX4_readTest_53 : decode cX4_readTest 53 = .ok (.iinc 2 1, 3) := by decide +kernel
theorem dX4_readTest_56 : decode cX4_readTest 56 = .ok (.goto (-49), 3) := by decide +kernel
theorem dX4_readTest_59 : decode cX4_readTest 59 = .ok (.iload_n 1, 1) := by decide +kernel
theorem dX4_readTest_60 : decode cX4_readTest 60 = .ok (.ireturn, 1) := by decide +kernel
def lcX4_readTest_1 (g : Nat → MS) : Ex Bool := (andX (andX (ltI (lvI 2) (ciI (iI 1600))) (ne0 (lvI 1))) (ne0 (calX decI (ckV 4 1) mX4_isWord (agC va_rf (lvR 0) (agC Value.int (ciI (iI 28)) agN)))))
def lbX4_readTest_1 (g : Nat → MS) : St := (forB (seqS (calS (ckV 4 0) mX4_goOn (agC va_rf (lvR 0) agN)) (lsI 1 (iteX (andX (ne0 (calX decI (ckV 4 0) (g 1) (agC va_rf (lvR 0) agN))) (ne0 (calX decI (ckV 4 1) mX4_adds (agC va_rf (lvR 0) (agC Value.int (ciI (iI 28)) agN))))) (ciI (iI 1)) (ciI (iI 0))))) (incI 2 (iI 1)))
def bX4_readTest (g : Nat → MS) : St := (seqS (lsI 1 (calX decI (ckV 4 0) (g 1) (agC va_rf (lvR 0) agN))) (seqS (scS 2 (seqS (lsI 2 (ciI (iI 0))) (whileS (lcX4_readTest_1 g) (lbX4_readTest_1 g)))) (retI (lvI 1))))
theorem jX4_readTest {n : Nat} {g : Nat → MS} (hg : ∀ w, w < 8 → MA (gpY w) (gpC w) (gpL w) (some .boolean) (12 + n) (g w)) : JS (RX4, cX4_readTest, 3, 12 + (n + 1), false) 0 0 0 61 [] (bX4_readTest g) := by
  have a1 : MA yX4_readBoth cX4_readBoth 3 (some (.boolean)) (12 + n) (g 1) := hg 1 (by decide)
  exact (JS.seq (pc1 := 5) (JS.is (pc1 := 4) (k := 1) (JX.call (pc1 := 1) decI_ok (JA.r (JX.al (k := 0) rfl dX4_readTest_0) JA.nil) a1 (RunK.V (i := 177) (c := 4) (n := 0) cl4 rfl (CN nX4_readBoth (show 12 + n + 1 ≤ 12 + (n + 1) by omega) (by decide)) gw695 gw697 gs15 dX4_readTest_1) (by decide)) rfl (show 1 < 3 by decide) dX4_readTest_4) (JS.seq (pc1 := 59) (JS.sc (JS.seq (pc1 := 7) (JS.is (pc1 := 6) (k := 2) (JX.ic (n := 0) rfl dX4_readTest_5) rfl (show 2 < 3 by decide) dX4_readTest_6) (JS.while (l := 59) (lb := 59) (pc1 := 27) (pc2 := 56) (pc3 := 59) (CJ.and_f (pc1 := 18) (CJ.and_f (pc1 := 14) (CJ.lt_f (tgt := 59) (pc1 := 8) (pc2 := 11) (JX.il (k := 2) rfl dX4_readTest_7) (JX.sp (n := 1600) ks1600 dX4_readTest_8) dX4_readTest_11 rfl) (CJ.ne0_f (tgt := 59) (pc1 := 15) (JX.il (k := 1) rfl dX4_readTest_14) dX4_readTest_15 rfl)) (CJ.ne0_f (tgt := 59) (pc1 := 24) (JX.call (pc1 := 21) decI_ok (JA.r (JX.al (k := 0) rfl dX4_readTest_18) (JA.i (JX.bp (n := 28) kb28 dX4_readTest_19) JA.nil)) aX4_isWord (RunK.V (i := 180) (c := 4) (n := 1) cl4 rfl (CN nX4_isWord (show 1 + 1 ≤ 12 + (n + 1) by omega) (by decide)) gw703 gw705 gs17 dX4_readTest_21) (by decide)) dX4_readTest_24 rfl)) (JS.forb (pc1 := 53) (JS.seq (pc1 := 31) (JS.call (pc1 := 28) (JA.r (JX.al (k := 0) rfl dX4_readTest_27) JA.nil) aX4_goOn (RunK.V (i := 88) (c := 4) (n := 0) cl4 rfl (CN nX4_goOn (show 2 + 1 ≤ 12 + (n + 1) by omega) (by decide)) gw658 gw660 gs8 dX4_readTest_28)) (JS.is (pc1 := 52) (k := 1) (JX.ite (l := 51) (pc1 := 47) (pc2 := 48) (pc3 := 52) (lend := 52) (CJ.and_f (pc1 := 38) (CJ.ne0_f (tgt := 51) (pc1 := 35) (JX.call (pc1 := 32) decI_ok (JA.r (JX.al (k := 0) rfl dX4_readTest_31) JA.nil) a1 (RunK.V (i := 177) (c := 4) (n := 0) cl4 rfl (CN nX4_readBoth (show 12 + n + 1 ≤ 12 + (n + 1) by omega) (by decide)) gw695 gw697 gs15 dX4_readTest_32) (by decide)) dX4_readTest_35 rfl) (CJ.ne0_f (tgt := 51) (pc1 := 44) (JX.call (pc1 := 41) decI_ok (JA.r (JX.al (k := 0) rfl dX4_readTest_38) (JA.i (JX.bp (n := 28) kb28 dX4_readTest_39) JA.nil)) aX4_adds (RunK.V (i := 183) (c := 4) (n := 1) cl4 rfl (CN nX4_adds (show 3 + 1 ≤ 12 + (n + 1) by omega) (by decide)) gw715 gw717 gs20 dX4_readTest_41) (by decide)) dX4_readTest_44 rfl)) (JX.ic (n := 1) rfl dX4_readTest_47) dX4_readTest_48 rfl (JX.ic (n := 0) rfl dX4_readTest_51) (Or.inl rfl)) rfl (show 1 < 3 by decide) dX4_readTest_52)) (JS.inc (n := 1) rfl (show 2 < 3 by decide) dX4_readTest_53)) dX4_readTest_56 rfl (Or.inl rfl) (Or.inl rfl)))) (JS.retI (pc1 := 60) (JX.il (k := 1) rfl dX4_readTest_59) dX4_readTest_60)))
theorem dX4_readBoth_0 : decode cX4_readBoth 0 = .ok (.aload_n 0, 1) := by decide +kernel
theorem dX4_readBoth_1 : decode cX4_readBoth 1 = .ok (.invokevirtual 186, 3) := by decide +kernel
theorem dX4_readBoth_4 : decode cX4_readBoth 4 = .ok (.istore_n 1, 1) := by decide +kernel
theorem dX4_readBoth_5 : decode cX4_readBoth 5 = .ok (.iconst 0, 1) := by decide +kernel
theorem dX4_readBoth_6 : decode cX4_readBoth 6 = .ok (.istore_n 2, 1) := by decide +kernel
theorem dX4_readBoth_7 : decode cX4_readBoth 7 = .ok (.iload_n 2, 1) := by decide +kernel
theorem dX4_readBoth_8 : decode cX4_readBoth 8 = .ok (.sipush 1600, 3) := by decide +kernel
theorem dX4_readBoth_11 : decode cX4_readBoth 11 = .ok (.if_icmp .ge 48, 3) := by decide +kernel
theorem dX4_readBoth_14 : decode cX4_readBoth 14 = .ok (.iload_n 1, 1) := by decide +kernel
theorem dX4_readBoth_15 : decode cX4_readBoth 15 = .ok (.ifCond .eq 44, 3) := by decide +kernel
theorem dX4_readBoth_18 : decode cX4_readBoth 18 = .ok (.aload_n 0, 1) := by decide +kernel
theorem dX4_readBoth_19 : decode cX4_readBoth 19 = .ok (.bipush 27, 2) := by decide +kernel
theorem dX4_readBoth_21 : decode cX4_readBoth 21 = .ok (.invokevirtual 180, 3) := by decide +kernel
theorem dX4_readBoth_24 : decode cX4_readBoth 24 = .ok (.ifCond .eq 35, 3) := by decide +kernel
theorem dX4_readBoth_27 : decode cX4_readBoth 27 = .ok (.aload_n 0, 1) := by decide +kernel
theorem dX4_readBoth_28 : decode cX4_readBoth 28 = .ok (.invokevirtual 88, 3) := by decide +kernel
theorem dX4_readBoth_31 : decode cX4_readBoth 31 = .ok (.aload_n 0, 1) := by decide +kernel
theorem dX4_readBoth_32 : decode cX4_readBoth 32 = .ok (.invokevirtual 186, 3) := by decide +kernel
theorem dX4_readBoth_35 : decode cX4_readBoth 35 = .ok (.ifCond .eq 16, 3) := by decide +kernel
theorem dX4_readBoth_38 : decode cX4_readBoth 38 = .ok (.aload_n 0, 1) := by decide +kernel
theorem dX4_readBoth_39 : decode cX4_readBoth 39 = .ok (.bipush 27, 2) := by decide +kernel
theorem dX4_readBoth_41 : decode cX4_readBoth 41 = .ok (.invokevirtual 183, 3) := by decide +kernel
theorem dX4_readBoth_44 : decode cX4_readBoth 44 = .ok (.ifCond .eq 7, 3) := by decide +kernel
theorem dX4_readBoth_47 : decode cX4_readBoth 47 = .ok (.iconst 1, 1) := by decide +kernel
theorem dX4_readBoth_48 : decode cX4_readBoth 48 = .ok (.goto 4, 3) := by decide +kernel
theorem dX4_readBoth_51 : decode cX4_readBoth 51 = .ok (.iconst 0, 1) := by decide +kernel
theorem dX4_readBoth_52 : decode cX4_readBoth 52 = .ok (.istore_n 1, 1) := by decide +kernel
theorem dX4_readBoth_53 : decode cX4_readBoth 53 = .ok (.iinc 2 1, 3) := by decide +kernel
theorem dX4_readBoth_56 : decode cX4_readBoth 56 = .ok (.goto (-49), 3) := by decide +kernel
theorem dX4_readBoth_59 : decode cX4_readBoth 59 = .ok (.iload_n 1, 1) := by decide +kernel
theorem dX4_readBoth_60 : decode cX4_readBoth 60 = .ok (.ireturn, 1) := by decide +kernel
def lcX4_readBoth_1 (g : Nat → MS) : Ex Bool := (andX (andX (ltI (lvI 2) (ciI (iI 1600))) (ne0 (lvI 1))) (ne0 (calX decI (ckV 4 1) mX4_isWord (agC va_rf (lvR 0) (agC Value.int (ciI (iI 27)) agN)))))
def lbX4_readBoth_1 (g : Nat → MS) : St := (forB (seqS (calS (ckV 4 0) mX4_goOn (agC va_rf (lvR 0) agN)) (lsI 1 (iteX (andX (ne0 (calX decI (ckV 4 0) (g 2) (agC va_rf (lvR 0) agN))) (ne0 (calX decI (ckV 4 1) mX4_adds (agC va_rf (lvR 0) (agC Value.int (ciI (iI 27)) agN))))) (ciI (iI 1)) (ciI (iI 0))))) (incI 2 (iI 1)))
def bX4_readBoth (g : Nat → MS) : St := (seqS (lsI 1 (calX decI (ckV 4 0) (g 2) (agC va_rf (lvR 0) agN))) (seqS (scS 2 (seqS (lsI 2 (ciI (iI 0))) (whileS (lcX4_readBoth_1 g) (lbX4_readBoth_1 g)))) (retI (lvI 1))))
theorem jX4_readBoth {n : Nat} {g : Nat → MS} (hg : ∀ w, w < 8 → MA (gpY w) (gpC w) (gpL w) (some .boolean) (12 + n) (g w)) : JS (RX4, cX4_readBoth, 3, 12 + (n + 1), false) 0 0 0 61 [] (bX4_readBoth g) := by
  have a2 : MA yX4_readFact cX4_readFact 1 (some (.boolean)) (12 + n) (g 2) := hg 2 (by decide)
  exact (JS.seq (pc1 := 5) (JS.is (pc1 := 4) (k := 1) (JX.call (pc1 := 1) decI_ok (JA.r (JX.al (k := 0) rfl dX4_readBoth_0) JA.nil) a2 (RunK.V (i := 186) (c := 4) (n := 0) cl4 rfl (CN nX4_readFact (show 12 + n + 1 ≤ 12 + (n + 1) by omega) (by decide)) gw699 gw701 gs16 dX4_readBoth_1) (by decide)) rfl (show 1 < 3 by decide) dX4_readBoth_4) (JS.seq (pc1 := 59) (JS.sc (JS.seq (pc1 := 7) (JS.is (pc1 := 6) (k := 2) (JX.ic (n := 0) rfl dX4_readBoth_5) rfl (show 2 < 3 by decide) dX4_readBoth_6) (JS.while (l := 59) (lb := 59) (pc1 := 27) (pc2 := 56) (pc3 := 59) (CJ.and_f (pc1 := 18) (CJ.and_f (pc1 := 14) (CJ.lt_f (tgt := 59) (pc1 := 8) (pc2 := 11) (JX.il (k := 2) rfl dX4_readBoth_7) (JX.sp (n := 1600) ks1600 dX4_readBoth_8) dX4_readBoth_11 rfl) (CJ.ne0_f (tgt := 59) (pc1 := 15) (JX.il (k := 1) rfl dX4_readBoth_14) dX4_readBoth_15 rfl)) (CJ.ne0_f (tgt := 59) (pc1 := 24) (JX.call (pc1 := 21) decI_ok (JA.r (JX.al (k := 0) rfl dX4_readBoth_18) (JA.i (JX.bp (n := 27) kb27 dX4_readBoth_19) JA.nil)) aX4_isWord (RunK.V (i := 180) (c := 4) (n := 1) cl4 rfl (CN nX4_isWord (show 1 + 1 ≤ 12 + (n + 1) by omega) (by decide)) gw703 gw705 gs17 dX4_readBoth_21) (by decide)) dX4_readBoth_24 rfl)) (JS.forb (pc1 := 53) (JS.seq (pc1 := 31) (JS.call (pc1 := 28) (JA.r (JX.al (k := 0) rfl dX4_readBoth_27) JA.nil) aX4_goOn (RunK.V (i := 88) (c := 4) (n := 0) cl4 rfl (CN nX4_goOn (show 2 + 1 ≤ 12 + (n + 1) by omega) (by decide)) gw658 gw660 gs8 dX4_readBoth_28)) (JS.is (pc1 := 52) (k := 1) (JX.ite (l := 51) (pc1 := 47) (pc2 := 48) (pc3 := 52) (lend := 52) (CJ.and_f (pc1 := 38) (CJ.ne0_f (tgt := 51) (pc1 := 35) (JX.call (pc1 := 32) decI_ok (JA.r (JX.al (k := 0) rfl dX4_readBoth_31) JA.nil) a2 (RunK.V (i := 186) (c := 4) (n := 0) cl4 rfl (CN nX4_readFact (show 12 + n + 1 ≤ 12 + (n + 1) by omega) (by decide)) gw699 gw701 gs16 dX4_readBoth_32) (by decide)) dX4_readBoth_35 rfl) (CJ.ne0_f (tgt := 51) (pc1 := 44) (JX.call (pc1 := 41) decI_ok (JA.r (JX.al (k := 0) rfl dX4_readBoth_38) (JA.i (JX.bp (n := 27) kb27 dX4_readBoth_39) JA.nil)) aX4_adds (RunK.V (i := 183) (c := 4) (n := 1) cl4 rfl (CN nX4_adds (show 3 + 1 ≤ 12 + (n + 1) by omega) (by decide)) gw715 gw717 gs20 dX4_readBoth_41) (by decide)) dX4_readBoth_44 rfl)) (JX.ic (n := 1) rfl dX4_readBoth_47) dX4_readBoth_48 rfl (JX.ic (n := 0) rfl dX4_readBoth_51) (Or.inl rfl)) rfl (show 1 < 3 by decide) dX4_readBoth_52)) (JS.inc (n := 1) rfl (show 2 < 3 by decide) dX4_readBoth_53)) dX4_readBoth_56 rfl (Or.inl rfl) (Or.inl rfl)))) (JS.retI (pc1 := 60) (JX.il (k := 1) rfl dX4_readBoth_59) dX4_readBoth_60)))
theorem dX4_readFact_0 : decode cX4_readFact 0 = .ok (.aload_n 0, 1) := by decide +kernel
theorem dX4_readFact_1 : decode cX4_readFact 1 = .ok (.bipush 25, 2) := by decide +kernel
theorem dX4_readFact_3 : decode cX4_readFact 3 = .ok (.invokevirtual 180, 3) := by decide +kernel
theorem dX4_readFact_6 : decode cX4_readFact 6 = .ok (.ifCond .eq 39, 3) := by decide +kernel
theorem dX4_readFact_9 : decode cX4_readFact 9 = .ok (.aload_n 0, 1) := by decide +kernel
theorem dX4_readFact_10 : decode cX4_readFact 10 = .ok (.invokevirtual 189, 3) := by decide +kernel
theorem dX4_readFact_13 : decode cX4_readFact 13 = .ok (.ifCond .eq 30, 3) := by decide +kernel
theorem dX4_readFact_16 : decode cX4_readFact 16 = .ok (.aload_n 0, 1) := by decide +kernel
theorem dX4_readFact_17 : decode cX4_readFact 17 = .ok (.invokevirtual 186, 3) := by decide +kernel
theorem dX4_readFact_20 : decode cX4_readFact 20 = .ok (.ifCond .eq 23, 3) := by decide +kernel
theorem dX4_readFact_23 : decode cX4_readFact 23 = .ok (.aload_n 0, 1) := by decide +kernel
theorem dX4_readFact_24 : decode cX4_readFact 24 = .ok (.invokevirtual 192, 3) := by decide +kernel
theorem dX4_readFact_27 : decode cX4_readFact 27 = .ok (.ifCond .eq 16, 3) := by decide +kernel
theorem dX4_readFact_30 : decode cX4_readFact 30 = .ok (.aload_n 0, 1) := by decide +kernel
theorem dX4_readFact_31 : decode cX4_readFact 31 = .ok (.bipush 25, 2) := by decide +kernel
theorem dX4_readFact_33 : decode cX4_readFact 33 = .ok (.invokevirtual 183, 3) := by decide +kernel
theorem dX4_readFact_36 : decode cX4_readFact 36 = .ok (.ifCond .eq 7, 3) := by decide +kernel
theorem dX4_readFact_39 : decode cX4_readFact 39 = .ok (.iconst 1, 1) := by decide +kernel
theorem dX4_readFact_40 : decode cX4_readFact 40 = .ok (.goto 4, 3) := by decide +kernel
theorem dX4_readFact_43 : decode cX4_readFact 43 = .ok (.iconst 0, 1) := by decide +kernel
theorem dX4_readFact_44 : decode cX4_readFact 44 = .ok (.ireturn, 1) := by decide +kernel
theorem dX4_readFact_45 : decode cX4_readFact 45 = .ok (.aload_n 0, 1) := by decide +kernel
theorem dX4_readFact_46 : decode cX4_readFact 46 = .ok (.bipush 91, 2) := by decide +kernel
theorem dX4_readFact_48 : decode cX4_readFact 48 = .ok (.invokevirtual 140, 3) := by decide +kernel
theorem dX4_readFact_51 : decode cX4_readFact 51 = .ok (.ifCond .eq 39, 3) := by decide +kernel
theorem dX4_readFact_54 : decode cX4_readFact 54 = .ok (.aload_n 0, 1) := by decide +kernel
theorem dX4_readFact_55 : decode cX4_readFact 55 = .ok (.invokevirtual 189, 3) := by decide +kernel
theorem dX4_readFact_58 : decode cX4_readFact 58 = .ok (.ifCond .eq 30, 3) := by decide +kernel
theorem dX4_readFact_61 : decode cX4_readFact 61 = .ok (.aload_n 0, 1) := by decide +kernel
theorem dX4_readFact_62 : decode cX4_readFact 62 = .ok (.invokevirtual 174, 3) := by decide +kernel
theorem dX4_readFact_65 : decode cX4_readFact 65 = .ok (.ifCond .eq 23, 3) := by decide +kernel
theorem dX4_readFact_68 : decode cX4_readFact 68 = .ok (.aload_n 0, 1) := by decide +kernel
theorem dX4_readFact_69 : decode cX4_readFact 69 = .ok (.bipush 93, 2) := by decide +kernel
theorem dX4_readFact_71 : decode cX4_readFact 71 = .ok (.invokevirtual 150, 3) := by decide +kernel
theorem dX4_readFact_74 : decode cX4_readFact 74 = .ok (.ifCond .eq 14, 3) := by decide +kernel
theorem dX4_readFact_77 : decode cX4_readFact 77 = .ok (.aload_n 0, 1) := by decide +kernel
theorem dX4_readFact_78 : decode cX4_readFact 78 = .ok (.invokevirtual 192, 3) := by decide +kernel
theorem dX4_readFact_81 : decode cX4_readFact 81 = .ok (.ifCond .eq 7, 3) := by decide +kernel
theorem dX4_readFact_84 : decode cX4_readFact 84 = .ok (.iconst 1, 1) := by decide +kernel
theorem dX4_readFact_85 : decode cX4_readFact 85 = .ok (.goto 4, 3) := by decide +kernel
theorem dX4_readFact_88 : decode cX4_readFact 88 = .ok (.iconst 0, 1) := by decide +kernel
theorem dX4_readFact_89 : decode cX4_readFact 89 = .ok (.ireturn, 1) := by decide +kernel
theorem dX4_readFact_90 : decode cX4_readFact 90 = .ok (.aload_n 0, 1) := by decide +kernel
theorem dX4_readFact_91 : decode cX4_readFact 91 = .ok (.bipush 26, 2) := by decide +kernel
theorem dX4_readFact_93 : decode cX4_readFact 93 = .ok (.invokevirtual 180, 3) := by decide +kernel
theorem dX4_readFact_96 : decode cX4_readFact 96 = .ok (.ifCond .eq 15, 3) := by decide +kernel
theorem dX4_readFact_99 : decode cX4_readFact 99 = .ok (.aload_n 0, 1) := by decide +kernel
theorem dX4_readFact_100 : decode cX4_readFact 100 = .ok (.invokevirtual 88, 3) := by decide +kernel
theorem dX4_readFact_103 : decode cX4_readFact 103 = .ok (.aload_n 0, 1) := by decide +kernel
theorem dX4_readFact_104 : decode cX4_readFact 104 = .ok (.sipush 1001, 3) := by decide +kernel
theorem dX4_readFact_107 : decode cX4_readFact 107 = .ok (.invokevirtual 183, 3) := by decide +kernel
theorem dX4_readFact_110 : decode cX4_readFact 110 = .ok (.ireturn, 1) := by decide +kernel
theorem dX4_readFact_111 : decode cX4_readFact 111 = .ok (.aload_n 0, 1) := by decide +kernel
theorem dX4_readFact_112 : decode cX4_readFact 112 = .ok (.invokevirtual 195, 3) := by decide +kernel
theorem dX4_readFact_115 : decode cX4_readFact 115 = .ok (.ifCond .eq 14, 3) := by decide +kernel
theorem dX4_readFact_118 : decode cX4_readFact 118 = .ok (.aload_n 0, 1) := by decide +kernel
theorem dX4_readFact_119 : decode cX4_readFact 119 = .ok (.invokevirtual 198, 3) := by decide +kernel
theorem dX4_readFact_122 : decode cX4_readFact 122 = .ok (.ifCond .eq 7, 3) := by decide +kernel
theorem dX4_readFact_125 : decode cX4_readFact 125 = .ok (.iconst 1, 1) := by decide +kernel
theorem dX4_readFact_126 : decode cX4_readFact 126 = .ok (.goto 4, 3) := by decide +kernel
theorem dX4_readFact_129 : decode cX4_readFact 129 = .ok (.iconst 0, 1) := by decide +kernel
theorem dX4_readFact_130 : decode cX4_readFact 130 = .ok (.ireturn, 1) := by decide +kernel
def bX4_readFact (g : Nat → MS) : St := (seqS (ifS (ne0 (calX decI (ckV 4 1) mX4_isWord (agC va_rf (lvR 0) (agC Value.int (ciI (iI 25)) agN)))) (retI (iteX (andX (andX (andX (ne0 (calX decI (ckV 4 0) mX4_opens (agC va_rf (lvR 0) agN))) (ne0 (calX decI (ckV 4 0) (g 2) (agC va_rf (lvR 0) agN)))) (ne0 (calX decI (ckV 4 0) mX4_closes (agC va_rf (lvR 0) agN)))) (ne0 (calX decI (ckV 4 1) mX4_adds (agC va_rf (lvR 0) (agC Value.int (ciI (iI 25)) agN))))) (ciI (iI 1)) (ciI (iI 0))))) (seqS (ifS (ne0 (calX decI (ckV 4 1) mX4_isSign (agC va_rf (lvR 0) (agC Value.int (ciI (iI 91)) agN)))) (retI (iteX (andX (andX (andX (ne0 (calX decI (ckV 4 0) mX4_opens (agC va_rf (lvR 0) agN))) (ne0 (calX decI (ckV 4 0) (g 0) (agC va_rf (lvR 0) agN)))) (ne0 (calX decI (ckV 4 1) mX4_takes (agC va_rf (lvR 0) (agC Value.int (ciI (iI 93)) agN))))) (ne0 (calX decI (ckV 4 0) mX4_closes (agC va_rf (lvR 0) agN)))) (ciI (iI 1)) (ciI (iI 0))))) (seqS (ifS (ne0 (calX decI (ckV 4 1) mX4_isWord (agC va_rf (lvR 0) (agC Value.int (ciI (iI 26)) agN)))) (seqS (calS (ckV 4 0) mX4_goOn (agC va_rf (lvR 0) agN)) (retI (calX decI (ckV 4 1) mX4_adds (agC va_rf (lvR 0) (agC Value.int (ciI (iI 1001)) agN)))))) (retI (iteX (andX (ne0 (calX decI (ckV 4 0) (g 4) (agC va_rf (lvR 0) agN))) (ne0 (calX decI (ckV 4 0) (g 3) (agC va_rf (lvR 0) agN)))) (ciI (iI 1)) (ciI (iI 0)))))))
theorem jX4_readFact {n : Nat} {g : Nat → MS} (hg : ∀ w, w < 8 → MA (gpY w) (gpC w) (gpL w) (some .boolean) (12 + n) (g w)) : JS (RX4, cX4_readFact, 1, 12 + (n + 1), false) 0 0 0 131 [] (bX4_readFact g) := by
  have a0 : MA yX4_readTest cX4_readTest 3 (some (.boolean)) (12 + n) (g 0) := hg 0 (by decide)
  have a2 : MA yX4_readFact cX4_readFact 1 (some (.boolean)) (12 + n) (g 2) := hg 2 (by decide)
  have a3 : MA yX4_readComparison cX4_readComparison 2 (some (.boolean)) (12 + n) (g 3) := hg 3 (by decide)
  have a4 : MA yX4_readSum cX4_readSum 4 (some (.boolean)) (12 + n) (g 4) := hg 4 (by decide)
  exact (JS.seq (pc1 := 45) (JS.iff (l := 45) (pc1 := 9) (CJ.ne0_f (tgt := 45) (pc1 := 6) (JX.call (pc1 := 3) decI_ok (JA.r (JX.al (k := 0) rfl dX4_readFact_0) (JA.i (JX.bp (n := 25) kb25 dX4_readFact_1) JA.nil)) aX4_isWord (RunK.V (i := 180) (c := 4) (n := 1) cl4 rfl (CN nX4_isWord (show 1 + 1 ≤ 12 + (n + 1) by omega) (by decide)) gw703 gw705 gs17 dX4_readFact_3) (by decide)) dX4_readFact_6 rfl) (JS.retI (pc1 := 44) (JX.ite (l := 43) (pc1 := 39) (pc2 := 40) (pc3 := 44) (lend := 44) (CJ.and_f (pc1 := 30) (CJ.and_f (pc1 := 23) (CJ.and_f (pc1 := 16) (CJ.ne0_f (tgt := 43) (pc1 := 13) (JX.call (pc1 := 10) decI_ok (JA.r (JX.al (k := 0) rfl dX4_readFact_9) JA.nil) aX4_opens (RunK.V (i := 189) (c := 4) (n := 0) cl4 rfl (CN nX4_opens (show 3 + 1 ≤ 12 + (n + 1) by omega) (by decide)) gw707 gw709 gs18 dX4_readFact_10) (by decide)) dX4_readFact_13 rfl) (CJ.ne0_f (tgt := 43) (pc1 := 20) (JX.call (pc1 := 17) decI_ok (JA.r (JX.al (k := 0) rfl dX4_readFact_16) JA.nil) a2 (RunK.V (i := 186) (c := 4) (n := 0) cl4 rfl (CN nX4_readFact (show 12 + n + 1 ≤ 12 + (n + 1) by omega) (by decide)) gw699 gw701 gs16 dX4_readFact_17) (by decide)) dX4_readFact_20 rfl)) (CJ.ne0_f (tgt := 43) (pc1 := 27) (JX.call (pc1 := 24) decI_ok (JA.r (JX.al (k := 0) rfl dX4_readFact_23) JA.nil) aX4_closes (RunK.V (i := 192) (c := 4) (n := 0) cl4 rfl (CN nX4_closes (show 1 + 1 ≤ 12 + (n + 1) by omega) (by decide)) gw711 gw713 gs19 dX4_readFact_24) (by decide)) dX4_readFact_27 rfl)) (CJ.ne0_f (tgt := 43) (pc1 := 36) (JX.call (pc1 := 33) decI_ok (JA.r (JX.al (k := 0) rfl dX4_readFact_30) (JA.i (JX.bp (n := 25) kb25 dX4_readFact_31) JA.nil)) aX4_adds (RunK.V (i := 183) (c := 4) (n := 1) cl4 rfl (CN nX4_adds (show 3 + 1 ≤ 12 + (n + 1) by omega) (by decide)) gw715 gw717 gs20 dX4_readFact_33) (by decide)) dX4_readFact_36 rfl)) (JX.ic (n := 1) rfl dX4_readFact_39) dX4_readFact_40 rfl (JX.ic (n := 0) rfl dX4_readFact_43) (Or.inl rfl)) dX4_readFact_44) (Or.inl rfl)) (JS.seq (pc1 := 90) (JS.iff (l := 90) (pc1 := 54) (CJ.ne0_f (tgt := 90) (pc1 := 51) (JX.call (pc1 := 48) decI_ok (JA.r (JX.al (k := 0) rfl dX4_readFact_45) (JA.i (JX.bp (n := 91) kb91 dX4_readFact_46) JA.nil)) aX4_isSign (RunK.V (i := 140) (c := 4) (n := 1) cl4 rfl (CN nX4_isSign (show 1 + 1 ≤ 12 + (n + 1) by omega) (by decide)) gw719 gw721 gs21 dX4_readFact_48) (by decide)) dX4_readFact_51 rfl) (JS.retI (pc1 := 89) (JX.ite (l := 88) (pc1 := 84) (pc2 := 85) (pc3 := 89) (lend := 89) (CJ.and_f (pc1 := 77) (CJ.and_f (pc1 := 68) (CJ.and_f (pc1 := 61) (CJ.ne0_f (tgt := 88) (pc1 := 58) (JX.call (pc1 := 55) decI_ok (JA.r (JX.al (k := 0) rfl dX4_readFact_54) JA.nil) aX4_opens (RunK.V (i := 189) (c := 4) (n := 0) cl4 rfl (CN nX4_opens (show 3 + 1 ≤ 12 + (n + 1) by omega) (by decide)) gw707 gw709 gs18 dX4_readFact_55) (by decide)) dX4_readFact_58 rfl) (CJ.ne0_f (tgt := 88) (pc1 := 65) (JX.call (pc1 := 62) decI_ok (JA.r (JX.al (k := 0) rfl dX4_readFact_61) JA.nil) a0 (RunK.V (i := 174) (c := 4) (n := 0) cl4 rfl (CN nX4_readTest (show 12 + n + 1 ≤ 12 + (n + 1) by omega) (by decide)) gw691 gw693 gs14 dX4_readFact_62) (by decide)) dX4_readFact_65 rfl)) (CJ.ne0_f (tgt := 88) (pc1 := 74) (JX.call (pc1 := 71) decI_ok (JA.r (JX.al (k := 0) rfl dX4_readFact_68) (JA.i (JX.bp (n := 93) kb93 dX4_readFact_69) JA.nil)) aX4_takes (RunK.V (i := 150) (c := 4) (n := 1) cl4 rfl (CN nX4_takes (show 3 + 1 ≤ 12 + (n + 1) by omega) (by decide)) gw723 gw725 gs22 dX4_readFact_71) (by decide)) dX4_readFact_74 rfl)) (CJ.ne0_f (tgt := 88) (pc1 := 81) (JX.call (pc1 := 78) decI_ok (JA.r (JX.al (k := 0) rfl dX4_readFact_77) JA.nil) aX4_closes (RunK.V (i := 192) (c := 4) (n := 0) cl4 rfl (CN nX4_closes (show 1 + 1 ≤ 12 + (n + 1) by omega) (by decide)) gw711 gw713 gs19 dX4_readFact_78) (by decide)) dX4_readFact_81 rfl)) (JX.ic (n := 1) rfl dX4_readFact_84) dX4_readFact_85 rfl (JX.ic (n := 0) rfl dX4_readFact_88) (Or.inl rfl)) dX4_readFact_89) (Or.inl rfl)) (JS.seq (pc1 := 111) (JS.iff (l := 111) (pc1 := 99) (CJ.ne0_f (tgt := 111) (pc1 := 96) (JX.call (pc1 := 93) decI_ok (JA.r (JX.al (k := 0) rfl dX4_readFact_90) (JA.i (JX.bp (n := 26) kb26 dX4_readFact_91) JA.nil)) aX4_isWord (RunK.V (i := 180) (c := 4) (n := 1) cl4 rfl (CN nX4_isWord (show 1 + 1 ≤ 12 + (n + 1) by omega) (by decide)) gw703 gw705 gs17 dX4_readFact_93) (by decide)) dX4_readFact_96 rfl) (JS.seq (pc1 := 103) (JS.call (pc1 := 100) (JA.r (JX.al (k := 0) rfl dX4_readFact_99) JA.nil) aX4_goOn (RunK.V (i := 88) (c := 4) (n := 0) cl4 rfl (CN nX4_goOn (show 2 + 1 ≤ 12 + (n + 1) by omega) (by decide)) gw658 gw660 gs8 dX4_readFact_100)) (JS.retI (pc1 := 110) (JX.call (pc1 := 107) decI_ok (JA.r (JX.al (k := 0) rfl dX4_readFact_103) (JA.i (JX.sp (n := 1001) ks1001 dX4_readFact_104) JA.nil)) aX4_adds (RunK.V (i := 183) (c := 4) (n := 1) cl4 rfl (CN nX4_adds (show 3 + 1 ≤ 12 + (n + 1) by omega) (by decide)) gw715 gw717 gs20 dX4_readFact_107) (by decide)) dX4_readFact_110)) (Or.inl rfl)) (JS.retI (pc1 := 130) (JX.ite (l := 129) (pc1 := 125) (pc2 := 126) (pc3 := 130) (lend := 130) (CJ.and_f (pc1 := 118) (CJ.ne0_f (tgt := 129) (pc1 := 115) (JX.call (pc1 := 112) decI_ok (JA.r (JX.al (k := 0) rfl dX4_readFact_111) JA.nil) a4 (RunK.V (i := 195) (c := 4) (n := 0) cl4 rfl (CN nX4_readSum (show 12 + n + 1 ≤ 12 + (n + 1) by omega) (by decide)) gw727 gw729 gs23 dX4_readFact_112) (by decide)) dX4_readFact_115 rfl) (CJ.ne0_f (tgt := 129) (pc1 := 122) (JX.call (pc1 := 119) decI_ok (JA.r (JX.al (k := 0) rfl dX4_readFact_118) JA.nil) a3 (RunK.V (i := 198) (c := 4) (n := 0) cl4 rfl (CN nX4_readComparison (show 12 + n + 1 ≤ 12 + (n + 1) by omega) (by decide)) gw747 gw749 gs28 dX4_readFact_119) (by decide)) dX4_readFact_122 rfl)) (JX.ic (n := 1) rfl dX4_readFact_125) dX4_readFact_126 rfl (JX.ic (n := 0) rfl dX4_readFact_129) (Or.inl rfl)) dX4_readFact_130))))
theorem dX4_readComparison_0 : decode cX4_readComparison 0 = .ok (.aload_n 0, 1) := by decide +kernel
theorem dX4_readComparison_1 : decode cX4_readComparison 1 = .ok (.getfield 34, 3) := by decide +kernel
theorem dX4_readComparison_4 : decode cX4_readComparison 4 = .ok (.istore_n 1, 1) := by decide +kernel
theorem dX4_readComparison_5 : decode cX4_readComparison 5 = .ok (.aload_n 0, 1) := by decide +kernel
theorem dX4_readComparison_6 : decode cX4_readComparison 6 = .ok (.bipush 60, 2) := by decide +kernel
theorem dX4_readComparison_8 : decode cX4_readComparison 8 = .ok (.invokevirtual 140, 3) := by decide +kernel
theorem dX4_readComparison_11 : decode cX4_readComparison 11 = .ok (.ifCond .ne 26, 3) := by decide +kernel
theorem dX4_readComparison_14 : decode cX4_readComparison 14 = .ok (.aload_n 0, 1) := by decide +kernel
theorem dX4_readComparison_15 : decode cX4_readComparison 15 = .ok (.bipush 62, 2) := by decide +kernel
theorem dX4_readComparison_17 : decode cX4_readComparison 17 = .ok (.invokevirtual 140, 3) := by decide +kernel
theorem dX4_readComparison_20 : decode cX4_readComparison 20 = .ok (.ifCond .ne 17, 3) := by decide +kernel
theorem dX4_readComparison_23 : decode cX4_readComparison 23 = .ok (.aload_n 0, 1) := by decide +kernel
theorem dX4_readComparison_24 : decode cX4_readComparison 24 = .ok (.bipush 61, 2) := by decide +kernel
theorem dX4_readComparison_26 : decode cX4_readComparison 26 = .ok (.invokevirtual 140, 3) := by decide +kernel
theorem dX4_readComparison_29 : decode cX4_readComparison 29 = .ok (.ifCond .ne 8, 3) := by decide +kernel
theorem dX4_readComparison_32 : decode cX4_readComparison 32 = .ok (.aload_n 0, 1) := by decide +kernel
theorem dX4_readComparison_33 : decode cX4_readComparison 33 = .ok (.invokevirtual 98, 3) := by decide +kernel
theorem dX4_readComparison_36 : decode cX4_readComparison 36 = .ok (.ireturn, 1) := by decide +kernel
theorem dX4_readComparison_37 : decode cX4_readComparison 37 = .ok (.aload_n 0, 1) := by decide +kernel
theorem dX4_readComparison_38 : decode cX4_readComparison 38 = .ok (.invokevirtual 88, 3) := by decide +kernel
theorem dX4_readComparison_41 : decode cX4_readComparison 41 = .ok (.aload_n 0, 1) := by decide +kernel
theorem dX4_readComparison_42 : decode cX4_readComparison 42 = .ok (.invokevirtual 195, 3) := by decide +kernel
theorem dX4_readComparison_45 : decode cX4_readComparison 45 = .ok (.ifCond .eq 15, 3) := by decide +kernel
theorem dX4_readComparison_48 : decode cX4_readComparison 48 = .ok (.aload_n 0, 1) := by decide +kernel
theorem dX4_readComparison_49 : decode cX4_readComparison 49 = .ok (.iload_n 1, 1) := by decide +kernel
theorem dX4_readComparison_50 : decode cX4_readComparison 50 = .ok (.invokevirtual 183, 3) := by decide +kernel
theorem dX4_readComparison_53 : decode cX4_readComparison 53 = .ok (.ifCond .eq 7, 3) := by decide +kernel
theorem dX4_readComparison_56 : decode cX4_readComparison 56 = .ok (.iconst 1, 1) := by decide +kernel
theorem dX4_readComparison_57 : decode cX4_readComparison 57 = .ok (.goto 4, 3) := by decide +kernel
theorem dX4_readComparison_60 : decode cX4_readComparison 60 = .ok (.iconst 0, 1) := by decide +kernel
theorem dX4_readComparison_61 : decode cX4_readComparison 61 = .ok (.ireturn, 1) := by decide +kernel
def bX4_readComparison (g : Nat → MS) : St := (seqS (lsI 1 (getI 4 6 (lvR 0))) (seqS (ifS (andX (andX (notX (ne0 (calX decI (ckV 4 1) mX4_isSign (agC va_rf (lvR 0) (agC Value.int (ciI (iI 60)) agN))))) (notX (ne0 (calX decI (ckV 4 1) mX4_isSign (agC va_rf (lvR 0) (agC Value.int (ciI (iI 62)) agN)))))) (notX (ne0 (calX decI (ckV 4 1) mX4_isSign (agC va_rf (lvR 0) (agC Value.int (ciI (iI 61)) agN)))))) (retI (calX decI (ckV 4 0) mX4_isWrong (agC va_rf (lvR 0) agN)))) (seqS (calS (ckV 4 0) mX4_goOn (agC va_rf (lvR 0) agN)) (retI (iteX (andX (ne0 (calX decI (ckV 4 0) (g 4) (agC va_rf (lvR 0) agN))) (ne0 (calX decI (ckV 4 1) mX4_adds (agC va_rf (lvR 0) (agC Value.int (lvI 1) agN))))) (ciI (iI 1)) (ciI (iI 0)))))))
theorem jX4_readComparison {n : Nat} {g : Nat → MS} (hg : ∀ w, w < 8 → MA (gpY w) (gpC w) (gpL w) (some .boolean) (12 + n) (g w)) : JS (RX4, cX4_readComparison, 2, 12 + (n + 1), false) 0 0 0 62 [] (bX4_readComparison g) := by
  have a4 : MA yX4_readSum cX4_readSum 4 (some (.boolean)) (12 + n) (g 4) := hg 4 (by decide)
  exact (JS.seq (pc1 := 5) (JS.is (pc1 := 4) (k := 1) (JX.getI (pc1 := 1) (c := 4) (k := 6) (i := 34) (JX.al (k := 0) rfl dX4_readComparison_0) cl4 (by decide) rfl fk4_34 dX4_readComparison_1) rfl (show 1 < 2 by decide) dX4_readComparison_4) (JS.seq (pc1 := 37) (JS.iff (l := 37) (pc1 := 32) (CJ.and_f (pc1 := 23) (CJ.and_f (pc1 := 14) (CJ.not_f (CJ.ne0_t (tgt := 37) (pc1 := 11) (JX.call (pc1 := 8) decI_ok (JA.r (JX.al (k := 0) rfl dX4_readComparison_5) (JA.i (JX.bp (n := 60) kb60 dX4_readComparison_6) JA.nil)) aX4_isSign (RunK.V (i := 140) (c := 4) (n := 1) cl4 rfl (CN nX4_isSign (show 1 + 1 ≤ 12 + (n + 1) by omega) (by decide)) gw719 gw721 gs21 dX4_readComparison_8) (by decide)) dX4_readComparison_11 rfl)) (CJ.not_f (CJ.ne0_t (tgt := 37) (pc1 := 20) (JX.call (pc1 := 17) decI_ok (JA.r (JX.al (k := 0) rfl dX4_readComparison_14) (JA.i (JX.bp (n := 62) kb62 dX4_readComparison_15) JA.nil)) aX4_isSign (RunK.V (i := 140) (c := 4) (n := 1) cl4 rfl (CN nX4_isSign (show 1 + 1 ≤ 12 + (n + 1) by omega) (by decide)) gw719 gw721 gs21 dX4_readComparison_17) (by decide)) dX4_readComparison_20 rfl))) (CJ.not_f (CJ.ne0_t (tgt := 37) (pc1 := 29) (JX.call (pc1 := 26) decI_ok (JA.r (JX.al (k := 0) rfl dX4_readComparison_23) (JA.i (JX.bp (n := 61) kb61 dX4_readComparison_24) JA.nil)) aX4_isSign (RunK.V (i := 140) (c := 4) (n := 1) cl4 rfl (CN nX4_isSign (show 1 + 1 ≤ 12 + (n + 1) by omega) (by decide)) gw719 gw721 gs21 dX4_readComparison_26) (by decide)) dX4_readComparison_29 rfl))) (JS.retI (pc1 := 36) (JX.call (pc1 := 33) decI_ok (JA.r (JX.al (k := 0) rfl dX4_readComparison_32) JA.nil) aX4_isWrong (RunK.V (i := 98) (c := 4) (n := 0) cl4 rfl (CN nX4_isWrong (show 2 + 1 ≤ 12 + (n + 1) by omega) (by decide)) gw670 gw672 gs11 dX4_readComparison_33) (by decide)) dX4_readComparison_36) (Or.inl rfl)) (JS.seq (pc1 := 41) (JS.call (pc1 := 38) (JA.r (JX.al (k := 0) rfl dX4_readComparison_37) JA.nil) aX4_goOn (RunK.V (i := 88) (c := 4) (n := 0) cl4 rfl (CN nX4_goOn (show 2 + 1 ≤ 12 + (n + 1) by omega) (by decide)) gw658 gw660 gs8 dX4_readComparison_38)) (JS.retI (pc1 := 61) (JX.ite (l := 60) (pc1 := 56) (pc2 := 57) (pc3 := 61) (lend := 61) (CJ.and_f (pc1 := 48) (CJ.ne0_f (tgt := 60) (pc1 := 45) (JX.call (pc1 := 42) decI_ok (JA.r (JX.al (k := 0) rfl dX4_readComparison_41) JA.nil) a4 (RunK.V (i := 195) (c := 4) (n := 0) cl4 rfl (CN nX4_readSum (show 12 + n + 1 ≤ 12 + (n + 1) by omega) (by decide)) gw727 gw729 gs23 dX4_readComparison_42) (by decide)) dX4_readComparison_45 rfl) (CJ.ne0_f (tgt := 60) (pc1 := 53) (JX.call (pc1 := 50) decI_ok (JA.r (JX.al (k := 0) rfl dX4_readComparison_48) (JA.i (JX.il (k := 1) rfl dX4_readComparison_49) JA.nil)) aX4_adds (RunK.V (i := 183) (c := 4) (n := 1) cl4 rfl (CN nX4_adds (show 3 + 1 ≤ 12 + (n + 1) by omega) (by decide)) gw715 gw717 gs20 dX4_readComparison_50) (by decide)) dX4_readComparison_53 rfl)) (JX.ic (n := 1) rfl dX4_readComparison_56) dX4_readComparison_57 rfl (JX.ic (n := 0) rfl dX4_readComparison_60) (Or.inl rfl)) dX4_readComparison_61))))
theorem dX4_readSum_0 : decode cX4_readSum 0 = .ok (.aload_n 0, 1) := by decide +kernel
theorem dX4_readSum_1 : decode cX4_readSum 1 = .ok (.invokevirtual 201, 3) := by decide +kernel
theorem dX4_readSum_4 : decode cX4_readSum 4 = .ok (.istore_n 1, 1) := by decide +kernel
theorem dX4_readSum_5 : decode cX4_readSum 5 = .ok (.iconst 0, 1) := by decide +kernel
theorem dX4_readSum_6 : decode cX4_readSum 6 = .ok (.istore_n 2, 1) := by decide +kernel
theorem dX4_readSum_7 : decode cX4_readSum 7 = .ok (.iload_n 2, 1) := by decide +kernel
theorem dX4_readSum_8 : decode cX4_readSum 8 = .ok (.sipush 1600, 3) := by decide +kernel
theorem dX4_readSum_11 : decode cX4_readSum 11 = .ok (.if_icmp .ge 61, 3) := by decide +kernel
theorem dX4_readSum_14 : decode cX4_readSum 14 = .ok (.iload_n 1, 1) := by decide +kernel
theorem dX4_readSum_15 : decode cX4_readSum 15 = .ok (.ifCond .eq 57, 3) := by decide +kernel
theorem dX4_readSum_18 : decode cX4_readSum 18 = .ok (.aload_n 0, 1) := by decide +kernel
theorem dX4_readSum_19 : decode cX4_readSum 19 = .ok (.bipush 43, 2) := by decide +kernel
theorem dX4_readSum_21 : decode cX4_readSum 21 = .ok (.invokevirtual 140, 3) := by decide +kernel
theorem dX4_readSum_24 : decode cX4_readSum 24 = .ok (.ifCond .ne 12, 3) := by decide +kernel
theorem dX4_readSum_27 : decode cX4_readSum 27 = .ok (.aload_n 0, 1) := by decide +kernel
theorem dX4_readSum_28 : decode cX4_readSum 28 = .ok (.bipush 45, 2) := by decide +kernel
theorem dX4_readSum_30 : decode cX4_readSum 30 = .ok (.invokevirtual 140, 3) := by decide +kernel
theorem dX4_readSum_33 : decode cX4_readSum 33 = .ok (.ifCond .eq 39, 3) := by decide +kernel
theorem dX4_readSum_36 : decode cX4_readSum 36 = .ok (.aload_n 0, 1) := by decide +kernel
theorem dX4_readSum_37 : decode cX4_readSum 37 = .ok (.getfield 34, 3) := by decide +kernel
theorem dX4_readSum_40 : decode cX4_readSum 40 = .ok (.istore_n 3, 1) := by decide +kernel
theorem dX4_readSum_41 : decode cX4_readSum 41 = .ok (.aload_n 0, 1) := by decide +kernel
theorem dX4_readSum_42 : decode cX4_readSum 42 = .ok (.invokevirtual 88, 3) := by decide +kernel
theorem dX4_readSum_45 : decode cX4_readSum 45 = .ok (.aload_n 0, 1) := by decide +kernel
theorem dX4_readSum_46 : decode cX4_readSum 46 = .ok (.invokevirtual 201, 3) := by decide +kernel
theorem dX4_readSum_49 : decode cX4_readSum 49 = .ok (.ifCond .eq 15, 3) := by decide +kernel
theorem dX4_readSum_52 : decode cX4_readSum 52 = .ok (.aload_n 0, 1) := by decide +kernel
theorem dX4_readSum_53 : decode cX4_readSum 53 = .ok (.iload_n 3, 1) := by decide +kernel
theorem dX4_readSum_54 : decode cX4_readSum 54 = .ok (.invokevirtual 183, 3) := by decide +kernel
theorem dX4_readSum_57 : decode cX4_readSum 57 = .ok (.ifCond .eq 7, 3) := by decide +kernel
theorem dX4_readSum_60 : decode cX4_readSum 60 = .ok (.iconst 1, 1) := by decide +kernel
theorem dX4_readSum_61 : decode cX4_readSum 61 = .ok (.goto 4, 3) := by decide +kernel
theorem dX4_readSum_64 : decode cX4_readSum 64 = .ok (.iconst 0, 1) := by decide +kernel
theorem dX4_readSum_65 : decode cX4_readSum 65 = .ok (.istore_n 1, 1) := by decide +kernel
theorem dX4_readSum_66 : decode cX4_readSum 66 = .ok (.iinc 2 1, 3) := by decide +kernel
theorem dX4_readSum_69 : decode cX4_readSum 69 = .ok (.goto (-62), 3) := by decide +kernel
theorem dX4_readSum_72 : decode cX4_readSum 72 = .ok (.iload_n 1, 1) := by decide +kernel
theorem dX4_readSum_73 : decode cX4_readSum 73 = .ok (.ireturn, 1) := by decide +kernel
def lcX4_readSum_1 (g : Nat → MS) : Ex Bool := (andX (andX (ltI (lvI 2) (ciI (iI 1600))) (ne0 (lvI 1))) (orX (ne0 (calX decI (ckV 4 1) mX4_isSign (agC va_rf (lvR 0) (agC Value.int (ciI (iI 43)) agN)))) (ne0 (calX decI (ckV 4 1) mX4_isSign (agC va_rf (lvR 0) (agC Value.int (ciI (iI 45)) agN))))))
def lbX4_readSum_1 (g : Nat → MS) : St := (forB (scS 3 (seqS (lsI 3 (getI 4 6 (lvR 0))) (seqS (calS (ckV 4 0) mX4_goOn (agC va_rf (lvR 0) agN)) (lsI 1 (iteX (andX (ne0 (calX decI (ckV 4 0) (g 5) (agC va_rf (lvR 0) agN))) (ne0 (calX decI (ckV 4 1) mX4_adds (agC va_rf (lvR 0) (agC Value.int (lvI 3) agN))))) (ciI (iI 1)) (ciI (iI 0))))))) (incI 2 (iI 1)))
def bX4_readSum (g : Nat → MS) : St := (seqS (lsI 1 (calX decI (ckV 4 0) (g 5) (agC va_rf (lvR 0) agN))) (seqS (scS 2 (seqS (lsI 2 (ciI (iI 0))) (whileS (lcX4_readSum_1 g) (lbX4_readSum_1 g)))) (retI (lvI 1))))
theorem jX4_readSum {n : Nat} {g : Nat → MS} (hg : ∀ w, w < 8 → MA (gpY w) (gpC w) (gpL w) (some .boolean) (12 + n) (g w)) : JS (RX4, cX4_readSum, 4, 12 + (n + 1), false) 0 0 0 74 [] (bX4_readSum g) := by
  have a5 : MA yX4_readProduct cX4_readProduct 4 (some (.boolean)) (12 + n) (g 5) := hg 5 (by decide)
  exact (JS.seq (pc1 := 5) (JS.is (pc1 := 4) (k := 1) (JX.call (pc1 := 1) decI_ok (JA.r (JX.al (k := 0) rfl dX4_readSum_0) JA.nil) a5 (RunK.V (i := 201) (c := 4) (n := 0) cl4 rfl (CN nX4_readProduct (show 12 + n + 1 ≤ 12 + (n + 1) by omega) (by decide)) gw731 gw733 gs24 dX4_readSum_1) (by decide)) rfl (show 1 < 4 by decide) dX4_readSum_4) (JS.seq (pc1 := 72) (JS.sc (JS.seq (pc1 := 7) (JS.is (pc1 := 6) (k := 2) (JX.ic (n := 0) rfl dX4_readSum_5) rfl (show 2 < 4 by decide) dX4_readSum_6) (JS.while (l := 72) (lb := 72) (pc1 := 36) (pc2 := 69) (pc3 := 72) (CJ.and_f (pc1 := 18) (CJ.and_f (pc1 := 14) (CJ.lt_f (tgt := 72) (pc1 := 8) (pc2 := 11) (JX.il (k := 2) rfl dX4_readSum_7) (JX.sp (n := 1600) ks1600 dX4_readSum_8) dX4_readSum_11 rfl) (CJ.ne0_f (tgt := 72) (pc1 := 15) (JX.il (k := 1) rfl dX4_readSum_14) dX4_readSum_15 rfl)) (CJ.or_f (l := 36) (pc1 := 27) (CJ.ne0_t (tgt := 36) (pc1 := 24) (JX.call (pc1 := 21) decI_ok (JA.r (JX.al (k := 0) rfl dX4_readSum_18) (JA.i (JX.bp (n := 43) kb43 dX4_readSum_19) JA.nil)) aX4_isSign (RunK.V (i := 140) (c := 4) (n := 1) cl4 rfl (CN nX4_isSign (show 1 + 1 ≤ 12 + (n + 1) by omega) (by decide)) gw719 gw721 gs21 dX4_readSum_21) (by decide)) dX4_readSum_24 rfl) (CJ.ne0_f (tgt := 72) (pc1 := 33) (JX.call (pc1 := 30) decI_ok (JA.r (JX.al (k := 0) rfl dX4_readSum_27) (JA.i (JX.bp (n := 45) kb45 dX4_readSum_28) JA.nil)) aX4_isSign (RunK.V (i := 140) (c := 4) (n := 1) cl4 rfl (CN nX4_isSign (show 1 + 1 ≤ 12 + (n + 1) by omega) (by decide)) gw719 gw721 gs21 dX4_readSum_30) (by decide)) dX4_readSum_33 rfl) (Or.inl rfl))) (JS.forb (pc1 := 66) (JS.sc (JS.seq (pc1 := 41) (JS.is (pc1 := 40) (k := 3) (JX.getI (pc1 := 37) (c := 4) (k := 6) (i := 34) (JX.al (k := 0) rfl dX4_readSum_36) cl4 (by decide) rfl fk4_34 dX4_readSum_37) rfl (show 3 < 4 by decide) dX4_readSum_40) (JS.seq (pc1 := 45) (JS.call (pc1 := 42) (JA.r (JX.al (k := 0) rfl dX4_readSum_41) JA.nil) aX4_goOn (RunK.V (i := 88) (c := 4) (n := 0) cl4 rfl (CN nX4_goOn (show 2 + 1 ≤ 12 + (n + 1) by omega) (by decide)) gw658 gw660 gs8 dX4_readSum_42)) (JS.is (pc1 := 65) (k := 1) (JX.ite (l := 64) (pc1 := 60) (pc2 := 61) (pc3 := 65) (lend := 65) (CJ.and_f (pc1 := 52) (CJ.ne0_f (tgt := 64) (pc1 := 49) (JX.call (pc1 := 46) decI_ok (JA.r (JX.al (k := 0) rfl dX4_readSum_45) JA.nil) a5 (RunK.V (i := 201) (c := 4) (n := 0) cl4 rfl (CN nX4_readProduct (show 12 + n + 1 ≤ 12 + (n + 1) by omega) (by decide)) gw731 gw733 gs24 dX4_readSum_46) (by decide)) dX4_readSum_49 rfl) (CJ.ne0_f (tgt := 64) (pc1 := 57) (JX.call (pc1 := 54) decI_ok (JA.r (JX.al (k := 0) rfl dX4_readSum_52) (JA.i (JX.il (k := 3) rfl dX4_readSum_53) JA.nil)) aX4_adds (RunK.V (i := 183) (c := 4) (n := 1) cl4 rfl (CN nX4_adds (show 3 + 1 ≤ 12 + (n + 1) by omega) (by decide)) gw715 gw717 gs20 dX4_readSum_54) (by decide)) dX4_readSum_57 rfl)) (JX.ic (n := 1) rfl dX4_readSum_60) dX4_readSum_61 rfl (JX.ic (n := 0) rfl dX4_readSum_64) (Or.inl rfl)) rfl (show 1 < 4 by decide) dX4_readSum_65)))) (JS.inc (n := 1) rfl (show 2 < 4 by decide) dX4_readSum_66)) dX4_readSum_69 rfl (Or.inl rfl) (Or.inl rfl)))) (JS.retI (pc1 := 73) (JX.il (k := 1) rfl dX4_readSum_72) dX4_readSum_73)))
theorem dX4_readProduct_0 : decode cX4_readProduct 0 = .ok (.aload_n 0, 1) := by decide +kernel
theorem dX4_readProduct_1 : decode cX4_readProduct 1 = .ok (.invokevirtual 204, 3) := by decide +kernel
theorem dX4_readProduct_4 : decode cX4_readProduct 4 = .ok (.istore_n 1, 1) := by decide +kernel
theorem dX4_readProduct_5 : decode cX4_readProduct 5 = .ok (.iconst 0, 1) := by decide +kernel
theorem dX4_readProduct_6 : decode cX4_readProduct 6 = .ok (.istore_n 2, 1) := by decide +kernel
theorem dX4_readProduct_7 : decode cX4_readProduct 7 = .ok (.iload_n 2, 1) := by decide +kernel
theorem dX4_readProduct_8 : decode cX4_readProduct 8 = .ok (.sipush 1600, 3) := by decide +kernel
theorem dX4_readProduct_11 : decode cX4_readProduct 11 = .ok (.if_icmp .ge 70, 3) := by decide +kernel
theorem dX4_readProduct_14 : decode cX4_readProduct 14 = .ok (.iload_n 1, 1) := by decide +kernel
theorem dX4_readProduct_15 : decode cX4_readProduct 15 = .ok (.ifCond .eq 66, 3) := by decide +kernel
theorem dX4_readProduct_18 : decode cX4_readProduct 18 = .ok (.aload_n 0, 1) := by decide +kernel
theorem dX4_readProduct_19 : decode cX4_readProduct 19 = .ok (.bipush 42, 2) := by decide +kernel
theorem dX4_readProduct_21 : decode cX4_readProduct 21 = .ok (.invokevirtual 140, 3) := by decide +kernel
theorem dX4_readProduct_24 : decode cX4_readProduct 24 = .ok (.ifCond .ne 21, 3) := by decide +kernel
theorem dX4_readProduct_27 : decode cX4_readProduct 27 = .ok (.aload_n 0, 1) := by decide +kernel
theorem dX4_readProduct_28 : decode cX4_readProduct 28 = .ok (.bipush 47, 2) := by decide +kernel
theorem dX4_readProduct_30 : decode cX4_readProduct 30 = .ok (.invokevirtual 140, 3) := by decide +kernel
theorem dX4_readProduct_33 : decode cX4_readProduct 33 = .ok (.ifCond .ne 12, 3) := by decide +kernel
theorem dX4_readProduct_36 : decode cX4_readProduct 36 = .ok (.aload_n 0, 1) := by decide +kernel
theorem dX4_readProduct_37 : decode cX4_readProduct 37 = .ok (.bipush 37, 2) := by decide +kernel
theorem dX4_readProduct_39 : decode cX4_readProduct 39 = .ok (.invokevirtual 140, 3) := by decide +kernel
theorem dX4_readProduct_42 : decode cX4_readProduct 42 = .ok (.ifCond .eq 39, 3) := by decide +kernel
theorem dX4_readProduct_45 : decode cX4_readProduct 45 = .ok (.aload_n 0, 1) := by decide +kernel
theorem dX4_readProduct_46 : decode cX4_readProduct 46 = .ok (.getfield 34, 3) := by decide +kernel
theorem dX4_readProduct_49 : decode cX4_readProduct 49 = .ok (.istore_n 3, 1) := by decide +kernel
theorem dX4_readProduct_50 : decode cX4_readProduct 50 = .ok (.aload_n 0, 1) := by decide +kernel
theorem dX4_readProduct_51 : decode cX4_readProduct 51 = .ok (.invokevirtual 88, 3) := by decide +kernel
theorem dX4_readProduct_54 : decode cX4_readProduct 54 = .ok (.aload_n 0, 1) := by decide +kernel
theorem dX4_readProduct_55 : decode cX4_readProduct 55 = .ok (.invokevirtual 204, 3) := by decide +kernel
theorem dX4_readProduct_58 : decode cX4_readProduct 58 = .ok (.ifCond .eq 15, 3) := by decide +kernel
theorem dX4_readProduct_61 : decode cX4_readProduct 61 = .ok (.aload_n 0, 1) := by decide +kernel
theorem dX4_readProduct_62 : decode cX4_readProduct 62 = .ok (.iload_n 3, 1) := by decide +kernel
theorem dX4_readProduct_63 : decode cX4_readProduct 63 = .ok (.invokevirtual 183, 3) := by decide +kernel
theorem dX4_readProduct_66 : decode cX4_readProduct 66 = .ok (.ifCond .eq 7, 3) := by decide +kernel
theorem dX4_readProduct_69 : decode cX4_readProduct 69 = .ok (.iconst 1, 1) := by decide +kernel
theorem dX4_readProduct_70 : decode cX4_readProduct 70 = .ok (.goto 4, 3) := by decide +kernel
theorem dX4_readProduct_73 : decode cX4_readProduct 73 = .ok (.iconst 0, 1) := by decide +kernel
theorem dX4_readProduct_74 : decode cX4_readProduct 74 = .ok (.istore_n 1, 1) := by decide +kernel
theorem dX4_readProduct_75 : decode cX4_readProduct 75 = .ok (.iinc 2 1, 3) := by decide +kernel
theorem dX4_readProduct_78 : decode cX4_readProduct 78 = .ok (.goto (-71), 3) := by decide +kernel
theorem dX4_readProduct_81 : decode cX4_readProduct 81 = .ok (.iload_n 1, 1) := by decide +kernel
theorem dX4_readProduct_82 : decode cX4_readProduct 82 = .ok (.ireturn, 1) := by decide +kernel
def lcX4_readProduct_1 (g : Nat → MS) : Ex Bool := (andX (andX (ltI (lvI 2) (ciI (iI 1600))) (ne0 (lvI 1))) (orX (orX (ne0 (calX decI (ckV 4 1) mX4_isSign (agC va_rf (lvR 0) (agC Value.int (ciI (iI 42)) agN)))) (ne0 (calX decI (ckV 4 1) mX4_isSign (agC va_rf (lvR 0) (agC Value.int (ciI (iI 47)) agN))))) (ne0 (calX decI (ckV 4 1) mX4_isSign (agC va_rf (lvR 0) (agC Value.int (ciI (iI 37)) agN))))))
def lbX4_readProduct_1 (g : Nat → MS) : St := (forB (scS 3 (seqS (lsI 3 (getI 4 6 (lvR 0))) (seqS (calS (ckV 4 0) mX4_goOn (agC va_rf (lvR 0) agN)) (lsI 1 (iteX (andX (ne0 (calX decI (ckV 4 0) (g 6) (agC va_rf (lvR 0) agN))) (ne0 (calX decI (ckV 4 1) mX4_adds (agC va_rf (lvR 0) (agC Value.int (lvI 3) agN))))) (ciI (iI 1)) (ciI (iI 0))))))) (incI 2 (iI 1)))
def bX4_readProduct (g : Nat → MS) : St := (seqS (lsI 1 (calX decI (ckV 4 0) (g 6) (agC va_rf (lvR 0) agN))) (seqS (scS 2 (seqS (lsI 2 (ciI (iI 0))) (whileS (lcX4_readProduct_1 g) (lbX4_readProduct_1 g)))) (retI (lvI 1))))
theorem jX4_readProduct {n : Nat} {g : Nat → MS} (hg : ∀ w, w < 8 → MA (gpY w) (gpC w) (gpL w) (some .boolean) (12 + n) (g w)) : JS (RX4, cX4_readProduct, 4, 12 + (n + 1), false) 0 0 0 83 [] (bX4_readProduct g) := by
  have a6 : MA yX4_readPart cX4_readPart 2 (some (.boolean)) (12 + n) (g 6) := hg 6 (by decide)
  exact (JS.seq (pc1 := 5) (JS.is (pc1 := 4) (k := 1) (JX.call (pc1 := 1) decI_ok (JA.r (JX.al (k := 0) rfl dX4_readProduct_0) JA.nil) a6 (RunK.V (i := 204) (c := 4) (n := 0) cl4 rfl (CN nX4_readPart (show 12 + n + 1 ≤ 12 + (n + 1) by omega) (by decide)) gw735 gw737 gs25 dX4_readProduct_1) (by decide)) rfl (show 1 < 4 by decide) dX4_readProduct_4) (JS.seq (pc1 := 81) (JS.sc (JS.seq (pc1 := 7) (JS.is (pc1 := 6) (k := 2) (JX.ic (n := 0) rfl dX4_readProduct_5) rfl (show 2 < 4 by decide) dX4_readProduct_6) (JS.while (l := 81) (lb := 81) (pc1 := 45) (pc2 := 78) (pc3 := 81) (CJ.and_f (pc1 := 18) (CJ.and_f (pc1 := 14) (CJ.lt_f (tgt := 81) (pc1 := 8) (pc2 := 11) (JX.il (k := 2) rfl dX4_readProduct_7) (JX.sp (n := 1600) ks1600 dX4_readProduct_8) dX4_readProduct_11 rfl) (CJ.ne0_f (tgt := 81) (pc1 := 15) (JX.il (k := 1) rfl dX4_readProduct_14) dX4_readProduct_15 rfl)) (CJ.or_f (l := 45) (pc1 := 36) (CJ.or_t (pc1 := 27) (CJ.ne0_t (tgt := 45) (pc1 := 24) (JX.call (pc1 := 21) decI_ok (JA.r (JX.al (k := 0) rfl dX4_readProduct_18) (JA.i (JX.bp (n := 42) kb42 dX4_readProduct_19) JA.nil)) aX4_isSign (RunK.V (i := 140) (c := 4) (n := 1) cl4 rfl (CN nX4_isSign (show 1 + 1 ≤ 12 + (n + 1) by omega) (by decide)) gw719 gw721 gs21 dX4_readProduct_21) (by decide)) dX4_readProduct_24 rfl) (CJ.ne0_t (tgt := 45) (pc1 := 33) (JX.call (pc1 := 30) decI_ok (JA.r (JX.al (k := 0) rfl dX4_readProduct_27) (JA.i (JX.bp (n := 47) kb47 dX4_readProduct_28) JA.nil)) aX4_isSign (RunK.V (i := 140) (c := 4) (n := 1) cl4 rfl (CN nX4_isSign (show 1 + 1 ≤ 12 + (n + 1) by omega) (by decide)) gw719 gw721 gs21 dX4_readProduct_30) (by decide)) dX4_readProduct_33 rfl)) (CJ.ne0_f (tgt := 81) (pc1 := 42) (JX.call (pc1 := 39) decI_ok (JA.r (JX.al (k := 0) rfl dX4_readProduct_36) (JA.i (JX.bp (n := 37) kb37 dX4_readProduct_37) JA.nil)) aX4_isSign (RunK.V (i := 140) (c := 4) (n := 1) cl4 rfl (CN nX4_isSign (show 1 + 1 ≤ 12 + (n + 1) by omega) (by decide)) gw719 gw721 gs21 dX4_readProduct_39) (by decide)) dX4_readProduct_42 rfl) (Or.inl rfl))) (JS.forb (pc1 := 75) (JS.sc (JS.seq (pc1 := 50) (JS.is (pc1 := 49) (k := 3) (JX.getI (pc1 := 46) (c := 4) (k := 6) (i := 34) (JX.al (k := 0) rfl dX4_readProduct_45) cl4 (by decide) rfl fk4_34 dX4_readProduct_46) rfl (show 3 < 4 by decide) dX4_readProduct_49) (JS.seq (pc1 := 54) (JS.call (pc1 := 51) (JA.r (JX.al (k := 0) rfl dX4_readProduct_50) JA.nil) aX4_goOn (RunK.V (i := 88) (c := 4) (n := 0) cl4 rfl (CN nX4_goOn (show 2 + 1 ≤ 12 + (n + 1) by omega) (by decide)) gw658 gw660 gs8 dX4_readProduct_51)) (JS.is (pc1 := 74) (k := 1) (JX.ite (l := 73) (pc1 := 69) (pc2 := 70) (pc3 := 74) (lend := 74) (CJ.and_f (pc1 := 61) (CJ.ne0_f (tgt := 73) (pc1 := 58) (JX.call (pc1 := 55) decI_ok (JA.r (JX.al (k := 0) rfl dX4_readProduct_54) JA.nil) a6 (RunK.V (i := 204) (c := 4) (n := 0) cl4 rfl (CN nX4_readPart (show 12 + n + 1 ≤ 12 + (n + 1) by omega) (by decide)) gw735 gw737 gs25 dX4_readProduct_55) (by decide)) dX4_readProduct_58 rfl) (CJ.ne0_f (tgt := 73) (pc1 := 66) (JX.call (pc1 := 63) decI_ok (JA.r (JX.al (k := 0) rfl dX4_readProduct_61) (JA.i (JX.il (k := 3) rfl dX4_readProduct_62) JA.nil)) aX4_adds (RunK.V (i := 183) (c := 4) (n := 1) cl4 rfl (CN nX4_adds (show 3 + 1 ≤ 12 + (n + 1) by omega) (by decide)) gw715 gw717 gs20 dX4_readProduct_63) (by decide)) dX4_readProduct_66 rfl)) (JX.ic (n := 1) rfl dX4_readProduct_69) dX4_readProduct_70 rfl (JX.ic (n := 0) rfl dX4_readProduct_73) (Or.inl rfl)) rfl (show 1 < 4 by decide) dX4_readProduct_74)))) (JS.inc (n := 1) rfl (show 2 < 4 by decide) dX4_readProduct_75)) dX4_readProduct_78 rfl (Or.inl rfl) (Or.inl rfl)))) (JS.retI (pc1 := 82) (JX.il (k := 1) rfl dX4_readProduct_81) dX4_readProduct_82)))
theorem dX4_readPart_0 : decode cX4_readPart 0 = .ok (.aload_n 0, 1) := by decide +kernel
theorem dX4_readPart_1 : decode cX4_readPart 1 = .ok (.bipush 40, 2) := by decide +kernel
theorem dX4_readPart_3 : decode cX4_readPart 3 = .ok (.invokevirtual 140, 3) := by decide +kernel
theorem dX4_readPart_6 : decode cX4_readPart 6 = .ok (.ifCond .eq 39, 3) := by decide +kernel
theorem dX4_readPart_9 : decode cX4_readPart 9 = .ok (.aload_n 0, 1) := by decide +kernel
theorem dX4_readPart_10 : decode cX4_readPart 10 = .ok (.invokevirtual 189, 3) := by decide +kernel
theorem dX4_readPart_13 : decode cX4_readPart 13 = .ok (.ifCond .eq 30, 3) := by decide +kernel
theorem dX4_readPart_16 : decode cX4_readPart 16 = .ok (.aload_n 0, 1) := by decide +kernel
theorem dX4_readPart_17 : decode cX4_readPart 17 = .ok (.invokevirtual 195, 3) := by decide +kernel
theorem dX4_readPart_20 : decode cX4_readPart 20 = .ok (.ifCond .eq 23, 3) := by decide +kernel
theorem dX4_readPart_23 : decode cX4_readPart 23 = .ok (.aload_n 0, 1) := by decide +kernel
theorem dX4_readPart_24 : decode cX4_readPart 24 = .ok (.bipush 41, 2) := by decide +kernel
theorem dX4_readPart_26 : decode cX4_readPart 26 = .ok (.invokevirtual 150, 3) := by decide +kernel
theorem dX4_readPart_29 : decode cX4_readPart 29 = .ok (.ifCond .eq 14, 3) := by decide +kernel
theorem dX4_readPart_32 : decode cX4_readPart 32 = .ok (.aload_n 0, 1) := by decide +kernel
theorem dX4_readPart_33 : decode cX4_readPart 33 = .ok (.invokevirtual 192, 3) := by decide +kernel
theorem dX4_readPart_36 : decode cX4_readPart 36 = .ok (.ifCond .eq 7, 3) := by decide +kernel
theorem dX4_readPart_39 : decode cX4_readPart 39 = .ok (.iconst 1, 1) := by decide +kernel
theorem dX4_readPart_40 : decode cX4_readPart 40 = .ok (.goto 4, 3) := by decide +kernel
theorem dX4_readPart_43 : decode cX4_readPart 43 = .ok (.iconst 0, 1) := by decide +kernel
theorem dX4_readPart_44 : decode cX4_readPart 44 = .ok (.ireturn, 1) := by decide +kernel
theorem dX4_readPart_45 : decode cX4_readPart 45 = .ok (.aload_n 0, 1) := by decide +kernel
theorem dX4_readPart_46 : decode cX4_readPart 46 = .ok (.getfield 31, 3) := by decide +kernel
theorem dX4_readPart_49 : decode cX4_readPart 49 = .ok (.iconst 2, 1) := by decide +kernel
theorem dX4_readPart_50 : decode cX4_readPart 50 = .ok (.if_icmp .ne 22, 3) := by decide +kernel
theorem dX4_readPart_53 : decode cX4_readPart 53 = .ok (.aload_n 0, 1) := by decide +kernel
theorem dX4_readPart_54 : decode cX4_readPart 54 = .ok (.sipush 1000, 3) := by decide +kernel
theorem dX4_readPart_57 : decode cX4_readPart 57 = .ok (.aload_n 0, 1) := by decide +kernel
theorem dX4_readPart_58 : decode cX4_readPart 58 = .ok (.getfield 34, 3) := by decide +kernel
theorem dX4_readPart_61 : decode cX4_readPart 61 = .ok (.iadd, 1) := by decide +kernel
theorem dX4_readPart_62 : decode cX4_readPart 62 = .ok (.invokevirtual 183, 3) := by decide +kernel
theorem dX4_readPart_65 : decode cX4_readPart 65 = .ok (.pop, 1) := by decide +kernel
theorem dX4_readPart_66 : decode cX4_readPart 66 = .ok (.aload_n 0, 1) := by decide +kernel
theorem dX4_readPart_67 : decode cX4_readPart 67 = .ok (.invokevirtual 88, 3) := by decide +kernel
theorem dX4_readPart_70 : decode cX4_readPart 70 = .ok (.iconst 1, 1) := by decide +kernel
theorem dX4_readPart_71 : decode cX4_readPart 71 = .ok (.ireturn, 1) := by decide +kernel
theorem dX4_readPart_72 : decode cX4_readPart 72 = .ok (.aload_n 0, 1) := by decide +kernel
theorem dX4_readPart_73 : decode cX4_readPart 73 = .ok (.getfield 31, 3) := by decide +kernel
theorem dX4_readPart_76 : decode cX4_readPart 76 = .ok (.iconst 1, 1) := by decide +kernel
theorem dX4_readPart_77 : decode cX4_readPart 77 = .ok (.if_icmp .ne 10, 3) := by decide +kernel
theorem dX4_readPart_80 : decode cX4_readPart 80 = .ok (.aload_n 0, 1) := by decide +kernel
theorem dX4_readPart_81 : decode cX4_readPart 81 = .ok (.getfield 34, 3) := by decide +kernel
theorem dX4_readPart_84 : decode cX4_readPart 84 = .ok (.goto 4, 3) := by decide +kernel
theorem dX4_readPart_87 : decode cX4_readPart 87 = .ok (.iconst (-1), 1) := by decide +kernel
theorem dX4_readPart_88 : decode cX4_readPart 88 = .ok (.istore_n 1, 1) := by decide +kernel
theorem dX4_readPart_89 : decode cX4_readPart 89 = .ok (.iload_n 1, 1) := by decide +kernel
theorem dX4_readPart_90 : decode cX4_readPart 90 = .ok (.bipush 22, 2) := by decide +kernel
theorem dX4_readPart_92 : decode cX4_readPart 92 = .ok (.if_icmp .eq 15, 3) := by decide +kernel
theorem dX4_readPart_95 : decode cX4_readPart 95 = .ok (.iload_n 1, 1) := by decide +kernel
theorem dX4_readPart_96 : decode cX4_readPart 96 = .ok (.bipush 23, 2) := by decide +kernel
theorem dX4_readPart_98 : decode cX4_readPart 98 = .ok (.if_icmp .eq 9, 3) := by decide +kernel
theorem dX4_readPart_101 : decode cX4_readPart 101 = .ok (.iload_n 1, 1) := by decide +kernel
theorem dX4_readPart_102 : decode cX4_readPart 102 = .ok (.bipush 24, 2) := by decide +kernel
theorem dX4_readPart_104 : decode cX4_readPart 104 = .ok (.if_icmp .ne 13, 3) := by decide +kernel
theorem dX4_readPart_107 : decode cX4_readPart 107 = .ok (.aload_n 0, 1) := by decide +kernel
theorem dX4_readPart_108 : decode cX4_readPart 108 = .ok (.invokevirtual 88, 3) := by decide +kernel
theorem dX4_readPart_111 : decode cX4_readPart 111 = .ok (.aload_n 0, 1) := by decide +kernel
theorem dX4_readPart_112 : decode cX4_readPart 112 = .ok (.iload_n 1, 1) := by decide +kernel
theorem dX4_readPart_113 : decode cX4_readPart 113 = .ok (.invokevirtual 207, 3) := by decide +kernel
theorem dX4_readPart_116 : decode cX4_readPart 116 = .ok (.ireturn, 1) := by decide +kernel
theorem dX4_readPart_117 : decode cX4_readPart 117 = .ok (.aload_n 0, 1) := by decide +kernel
theorem dX4_readPart_118 : decode cX4_readPart 118 = .ok (.iload_n 1, 1) := by decide +kernel
theorem dX4_readPart_119 : decode cX4_readPart 119 = .ok (.invokevirtual 210, 3) := by decide +kernel
theorem dX4_readPart_122 : decode cX4_readPart 122 = .ok (.ifCond .ne 8, 3) := by decide +kernel
theorem dX4_readPart_125 : decode cX4_readPart 125 = .ok (.aload_n 0, 1) := by decide +kernel
theorem dX4_readPart_126 : decode cX4_readPart 126 = .ok (.invokevirtual 98, 3) := by decide +kernel
theorem dX4_readPart_129 : decode cX4_readPart 129 = .ok (.ireturn, 1) := by decide +kernel
theorem dX4_readPart_130 : decode cX4_readPart 130 = .ok (.aload_n 0, 1) := by decide +kernel
theorem dX4_readPart_131 : decode cX4_readPart 131 = .ok (.invokevirtual 88, 3) := by decide +kernel
theorem dX4_readPart_134 : decode cX4_readPart 134 = .ok (.aload_n 0, 1) := by decide +kernel
theorem dX4_readPart_135 : decode cX4_readPart 135 = .ok (.bipush 100, 2) := by decide +kernel
theorem dX4_readPart_137 : decode cX4_readPart 137 = .ok (.iload_n 1, 1) := by decide +kernel
theorem dX4_readPart_138 : decode cX4_readPart 138 = .ok (.iadd, 1) := by decide +kernel
theorem dX4_readPart_139 : decode cX4_readPart 139 = .ok (.invokevirtual 183, 3) := by decide +kernel
theorem dX4_readPart_142 : decode cX4_readPart 142 = .ok (.ireturn, 1) := by decide +kernel
def bX4_readPart (g : Nat → MS) : St := (seqS (ifS (ne0 (calX decI (ckV 4 1) mX4_isSign (agC va_rf (lvR 0) (agC Value.int (ciI (iI 40)) agN)))) (retI (iteX (andX (andX (andX (ne0 (calX decI (ckV 4 0) mX4_opens (agC va_rf (lvR 0) agN))) (ne0 (calX decI (ckV 4 0) (g 4) (agC va_rf (lvR 0) agN)))) (ne0 (calX decI (ckV 4 1) mX4_takes (agC va_rf (lvR 0) (agC Value.int (ciI (iI 41)) agN))))) (ne0 (calX decI (ckV 4 0) mX4_closes (agC va_rf (lvR 0) agN)))) (ciI (iI 1)) (ciI (iI 0))))) (seqS (ifS (eqI (getI 4 5 (lvR 0)) (ciI (iI 2))) (seqS (exS (calX decI (ckV 4 1) mX4_adds (agC va_rf (lvR 0) (agC Value.int (addI (ciI (iI 1000)) (getI 4 6 (lvR 0))) agN)))) (seqS (calS (ckV 4 0) mX4_goOn (agC va_rf (lvR 0) agN)) (retI (ciI (iI 1)))))) (seqS (lsI 1 (iteX (eqI (getI 4 5 (lvR 0)) (ciI (iI 1))) (getI 4 6 (lvR 0)) (ciI (iI (-1))))) (seqS (ifS (orX (orX (eqI (lvI 1) (ciI (iI 22))) (eqI (lvI 1) (ciI (iI 23)))) (eqI (lvI 1) (ciI (iI 24)))) (seqS (calS (ckV 4 0) mX4_goOn (agC va_rf (lvR 0) agN)) (retI (calX decI (ckV 4 1) (g 7) (agC va_rf (lvR 0) (agC Value.int (lvI 1) agN)))))) (seqS (ifS (notX (ne0 (calX decI (ckV 4 1) mX4_isFact (agC va_rf (lvR 0) (agC Value.int (lvI 1) agN))))) (retI (calX decI (ckV 4 0) mX4_isWrong (agC va_rf (lvR 0) agN)))) (seqS (calS (ckV 4 0) mX4_goOn (agC va_rf (lvR 0) agN)) (retI (calX decI (ckV 4 1) mX4_adds (agC va_rf (lvR 0) (agC Value.int (addI (ciI (iI 100)) (lvI 1)) agN))))))))))
theorem jX4_readPart {n : Nat} {g : Nat → MS} (hg : ∀ w, w < 8 → MA (gpY w) (gpC w) (gpL w) (some .boolean) (12 + n) (g w)) : JS (RX4, cX4_readPart, 2, 12 + (n + 1), false) 0 0 0 143 [] (bX4_readPart g) := by
  have a4 : MA yX4_readSum cX4_readSum 4 (some (.boolean)) (12 + n) (g 4) := hg 4 (by decide)
  have a7 : MA yX4_readCall cX4_readCall 2 (some (.boolean)) (12 + n) (g 7) := hg 7 (by decide)
  exact (JS.seq (pc1 := 45) (JS.iff (l := 45) (pc1 := 9) (CJ.ne0_f (tgt := 45) (pc1 := 6) (JX.call (pc1 := 3) decI_ok (JA.r (JX.al (k := 0) rfl dX4_readPart_0) (JA.i (JX.bp (n := 40) kb40 dX4_readPart_1) JA.nil)) aX4_isSign (RunK.V (i := 140) (c := 4) (n := 1) cl4 rfl (CN nX4_isSign (show 1 + 1 ≤ 12 + (n + 1) by omega) (by decide)) gw719 gw721 gs21 dX4_readPart_3) (by decide)) dX4_readPart_6 rfl) (JS.retI (pc1 := 44) (JX.ite (l := 43) (pc1 := 39) (pc2 := 40) (pc3 := 44) (lend := 44) (CJ.and_f (pc1 := 32) (CJ.and_f (pc1 := 23) (CJ.and_f (pc1 := 16) (CJ.ne0_f (tgt := 43) (pc1 := 13) (JX.call (pc1 := 10) decI_ok (JA.r (JX.al (k := 0) rfl dX4_readPart_9) JA.nil) aX4_opens (RunK.V (i := 189) (c := 4) (n := 0) cl4 rfl (CN nX4_opens (show 3 + 1 ≤ 12 + (n + 1) by omega) (by decide)) gw707 gw709 gs18 dX4_readPart_10) (by decide)) dX4_readPart_13 rfl) (CJ.ne0_f (tgt := 43) (pc1 := 20) (JX.call (pc1 := 17) decI_ok (JA.r (JX.al (k := 0) rfl dX4_readPart_16) JA.nil) a4 (RunK.V (i := 195) (c := 4) (n := 0) cl4 rfl (CN nX4_readSum (show 12 + n + 1 ≤ 12 + (n + 1) by omega) (by decide)) gw727 gw729 gs23 dX4_readPart_17) (by decide)) dX4_readPart_20 rfl)) (CJ.ne0_f (tgt := 43) (pc1 := 29) (JX.call (pc1 := 26) decI_ok (JA.r (JX.al (k := 0) rfl dX4_readPart_23) (JA.i (JX.bp (n := 41) kb41 dX4_readPart_24) JA.nil)) aX4_takes (RunK.V (i := 150) (c := 4) (n := 1) cl4 rfl (CN nX4_takes (show 3 + 1 ≤ 12 + (n + 1) by omega) (by decide)) gw723 gw725 gs22 dX4_readPart_26) (by decide)) dX4_readPart_29 rfl)) (CJ.ne0_f (tgt := 43) (pc1 := 36) (JX.call (pc1 := 33) decI_ok (JA.r (JX.al (k := 0) rfl dX4_readPart_32) JA.nil) aX4_closes (RunK.V (i := 192) (c := 4) (n := 0) cl4 rfl (CN nX4_closes (show 1 + 1 ≤ 12 + (n + 1) by omega) (by decide)) gw711 gw713 gs19 dX4_readPart_33) (by decide)) dX4_readPart_36 rfl)) (JX.ic (n := 1) rfl dX4_readPart_39) dX4_readPart_40 rfl (JX.ic (n := 0) rfl dX4_readPart_43) (Or.inl rfl)) dX4_readPart_44) (Or.inl rfl)) (JS.seq (pc1 := 72) (JS.iff (l := 72) (pc1 := 53) (CJ.eq_f (tgt := 72) (pc1 := 49) (pc2 := 50) (JX.getI (pc1 := 46) (c := 4) (k := 5) (i := 31) (JX.al (k := 0) rfl dX4_readPart_45) cl4 (by decide) rfl fk4_31 dX4_readPart_46) (JX.ic (n := 2) rfl dX4_readPart_49) dX4_readPart_50 rfl) (JS.seq (pc1 := 66) (JS.pop (pc1 := 65) (JX.call (pc1 := 62) decI_ok (JA.r (JX.al (k := 0) rfl dX4_readPart_53) (JA.i (JX.iadd (pc1 := 57) (pc2 := 61) (JX.sp (n := 1000) ks1000 dX4_readPart_54) (JX.getI (pc1 := 58) (c := 4) (k := 6) (i := 34) (JX.al (k := 0) rfl dX4_readPart_57) cl4 (by decide) rfl fk4_34 dX4_readPart_58) dX4_readPart_61) JA.nil)) aX4_adds (RunK.V (i := 183) (c := 4) (n := 1) cl4 rfl (CN nX4_adds (show 3 + 1 ≤ 12 + (n + 1) by omega) (by decide)) gw715 gw717 gs20 dX4_readPart_62) (by decide)) (fun _ => rfl) dX4_readPart_65) (JS.seq (pc1 := 70) (JS.call (pc1 := 67) (JA.r (JX.al (k := 0) rfl dX4_readPart_66) JA.nil) aX4_goOn (RunK.V (i := 88) (c := 4) (n := 0) cl4 rfl (CN nX4_goOn (show 2 + 1 ≤ 12 + (n + 1) by omega) (by decide)) gw658 gw660 gs8 dX4_readPart_67)) (JS.retI (pc1 := 71) (JX.ic (n := 1) rfl dX4_readPart_70) dX4_readPart_71))) (Or.inl rfl)) (JS.seq (pc1 := 89) (JS.is (pc1 := 88) (k := 1) (JX.ite (l := 87) (pc1 := 80) (pc2 := 84) (pc3 := 88) (lend := 88) (CJ.eq_f (tgt := 87) (pc1 := 76) (pc2 := 77) (JX.getI (pc1 := 73) (c := 4) (k := 5) (i := 31) (JX.al (k := 0) rfl dX4_readPart_72) cl4 (by decide) rfl fk4_31 dX4_readPart_73) (JX.ic (n := 1) rfl dX4_readPart_76) dX4_readPart_77 rfl) (JX.getI (pc1 := 81) (c := 4) (k := 6) (i := 34) (JX.al (k := 0) rfl dX4_readPart_80) cl4 (by decide) rfl fk4_34 dX4_readPart_81) dX4_readPart_84 rfl (JX.ic (n := (-1)) rfl dX4_readPart_87) (Or.inl rfl)) rfl (show 1 < 2 by decide) dX4_readPart_88) (JS.seq (pc1 := 117) (JS.iff (l := 117) (pc1 := 107) (CJ.or_f (l := 107) (pc1 := 101) (CJ.or_t (pc1 := 95) (CJ.eq_t (tgt := 107) (pc1 := 90) (pc2 := 92) (JX.il (k := 1) rfl dX4_readPart_89) (JX.bp (n := 22) kb22 dX4_readPart_90) dX4_readPart_92 rfl) (CJ.eq_t (tgt := 107) (pc1 := 96) (pc2 := 98) (JX.il (k := 1) rfl dX4_readPart_95) (JX.bp (n := 23) kb23 dX4_readPart_96) dX4_readPart_98 rfl)) (CJ.eq_f (tgt := 117) (pc1 := 102) (pc2 := 104) (JX.il (k := 1) rfl dX4_readPart_101) (JX.bp (n := 24) kb24 dX4_readPart_102) dX4_readPart_104 rfl) (Or.inl rfl)) (JS.seq (pc1 := 111) (JS.call (pc1 := 108) (JA.r (JX.al (k := 0) rfl dX4_readPart_107) JA.nil) aX4_goOn (RunK.V (i := 88) (c := 4) (n := 0) cl4 rfl (CN nX4_goOn (show 2 + 1 ≤ 12 + (n + 1) by omega) (by decide)) gw658 gw660 gs8 dX4_readPart_108)) (JS.retI (pc1 := 116) (JX.call (pc1 := 113) decI_ok (JA.r (JX.al (k := 0) rfl dX4_readPart_111) (JA.i (JX.il (k := 1) rfl dX4_readPart_112) JA.nil)) a7 (RunK.V (i := 207) (c := 4) (n := 1) cl4 rfl (CN nX4_readCall (show 12 + n + 1 ≤ 12 + (n + 1) by omega) (by decide)) gw739 gw741 gs26 dX4_readPart_113) (by decide)) dX4_readPart_116)) (Or.inl rfl)) (JS.seq (pc1 := 130) (JS.iff (l := 130) (pc1 := 125) (CJ.not_f (CJ.ne0_t (tgt := 130) (pc1 := 122) (JX.call (pc1 := 119) decI_ok (JA.r (JX.al (k := 0) rfl dX4_readPart_117) (JA.i (JX.il (k := 1) rfl dX4_readPart_118) JA.nil)) aX4_isFact (RunK.V (i := 210) (c := 4) (n := 1) cl4 rfl (CN nX4_isFact (show 1 + 1 ≤ 12 + (n + 1) by omega) (by decide)) gw743 gw745 gs27 dX4_readPart_119) (by decide)) dX4_readPart_122 rfl)) (JS.retI (pc1 := 129) (JX.call (pc1 := 126) decI_ok (JA.r (JX.al (k := 0) rfl dX4_readPart_125) JA.nil) aX4_isWrong (RunK.V (i := 98) (c := 4) (n := 0) cl4 rfl (CN nX4_isWrong (show 2 + 1 ≤ 12 + (n + 1) by omega) (by decide)) gw670 gw672 gs11 dX4_readPart_126) (by decide)) dX4_readPart_129) (Or.inl rfl)) (JS.seq (pc1 := 134) (JS.call (pc1 := 131) (JA.r (JX.al (k := 0) rfl dX4_readPart_130) JA.nil) aX4_goOn (RunK.V (i := 88) (c := 4) (n := 0) cl4 rfl (CN nX4_goOn (show 2 + 1 ≤ 12 + (n + 1) by omega) (by decide)) gw658 gw660 gs8 dX4_readPart_131)) (JS.retI (pc1 := 142) (JX.call (pc1 := 139) decI_ok (JA.r (JX.al (k := 0) rfl dX4_readPart_134) (JA.i (JX.iadd (pc1 := 137) (pc2 := 138) (JX.bp (n := 100) kb100 dX4_readPart_135) (JX.il (k := 1) rfl dX4_readPart_137) dX4_readPart_138) JA.nil)) aX4_adds (RunK.V (i := 183) (c := 4) (n := 1) cl4 rfl (CN nX4_adds (show 3 + 1 ≤ 12 + (n + 1) by omega) (by decide)) gw715 gw717 gs20 dX4_readPart_139) (by decide)) dX4_readPart_142)))))))
theorem dX4_readCall_0 : decode cX4_readCall 0 = .ok (.aload_n 0, 1) := by decide +kernel
theorem dX4_readCall_1 : decode cX4_readCall 1 = .ok (.bipush 40, 2) := by decide +kernel
theorem dX4_readCall_3 : decode cX4_readCall 3 = .ok (.invokevirtual 140, 3) := by decide +kernel
theorem dX4_readCall_6 : decode cX4_readCall 6 = .ok (.ifCond .ne 8, 3) := by decide +kernel
theorem dX4_readCall_9 : decode cX4_readCall 9 = .ok (.aload_n 0, 1) := by decide +kernel
theorem dX4_readCall_10 : decode cX4_readCall 10 = .ok (.invokevirtual 98, 3) := by decide +kernel
theorem dX4_readCall_13 : decode cX4_readCall 13 = .ok (.ireturn, 1) := by decide +kernel
theorem dX4_readCall_14 : decode cX4_readCall 14 = .ok (.aload_n 0, 1) := by decide +kernel
theorem dX4_readCall_15 : decode cX4_readCall 15 = .ok (.invokevirtual 189, 3) := by decide +kernel
theorem dX4_readCall_18 : decode cX4_readCall 18 = .ok (.ifCond .ne 5, 3) := by decide +kernel
theorem dX4_readCall_21 : decode cX4_readCall 21 = .ok (.iconst 0, 1) := by decide +kernel
theorem dX4_readCall_22 : decode cX4_readCall 22 = .ok (.ireturn, 1) := by decide +kernel
theorem dX4_readCall_23 : decode cX4_readCall 23 = .ok (.iload_n 1, 1) := by decide +kernel
theorem dX4_readCall_24 : decode cX4_readCall 24 = .ok (.bipush 24, 2) := by decide +kernel
theorem dX4_readCall_26 : decode cX4_readCall 26 = .ok (.if_icmp .ne 21, 3) := by decide +kernel
theorem dX4_readCall_29 : decode cX4_readCall 29 = .ok (.aload_n 0, 1) := by decide +kernel
theorem dX4_readCall_30 : decode cX4_readCall 30 = .ok (.invokevirtual 174, 3) := by decide +kernel
theorem dX4_readCall_33 : decode cX4_readCall 33 = .ok (.ifCond .eq 12, 3) := by decide +kernel
theorem dX4_readCall_36 : decode cX4_readCall 36 = .ok (.aload_n 0, 1) := by decide +kernel
theorem dX4_readCall_37 : decode cX4_readCall 37 = .ok (.bipush 44, 2) := by decide +kernel
theorem dX4_readCall_39 : decode cX4_readCall 39 = .ok (.invokevirtual 150, 3) := by decide +kernel
theorem dX4_readCall_42 : decode cX4_readCall 42 = .ok (.ifCond .ne 5, 3) := by decide +kernel
theorem dX4_readCall_45 : decode cX4_readCall 45 = .ok (.iconst 0, 1) := by decide +kernel
theorem dX4_readCall_46 : decode cX4_readCall 46 = .ok (.ireturn, 1) := by decide +kernel
theorem dX4_readCall_47 : decode cX4_readCall 47 = .ok (.aload_n 0, 1) := by decide +kernel
theorem dX4_readCall_48 : decode cX4_readCall 48 = .ok (.invokevirtual 195, 3) := by decide +kernel
theorem dX4_readCall_51 : decode cX4_readCall 51 = .ok (.ifCond .eq 47, 3) := by decide +kernel
theorem dX4_readCall_54 : decode cX4_readCall 54 = .ok (.aload_n 0, 1) := by decide +kernel
theorem dX4_readCall_55 : decode cX4_readCall 55 = .ok (.bipush 44, 2) := by decide +kernel
theorem dX4_readCall_57 : decode cX4_readCall 57 = .ok (.invokevirtual 150, 3) := by decide +kernel
theorem dX4_readCall_60 : decode cX4_readCall 60 = .ok (.ifCond .eq 38, 3) := by decide +kernel
theorem dX4_readCall_63 : decode cX4_readCall 63 = .ok (.aload_n 0, 1) := by decide +kernel
theorem dX4_readCall_64 : decode cX4_readCall 64 = .ok (.invokevirtual 195, 3) := by decide +kernel
theorem dX4_readCall_67 : decode cX4_readCall 67 = .ok (.ifCond .eq 31, 3) := by decide +kernel
theorem dX4_readCall_70 : decode cX4_readCall 70 = .ok (.aload_n 0, 1) := by decide +kernel
theorem dX4_readCall_71 : decode cX4_readCall 71 = .ok (.bipush 41, 2) := by decide +kernel
theorem dX4_readCall_73 : decode cX4_readCall 73 = .ok (.invokevirtual 150, 3) := by decide +kernel
theorem dX4_readCall_76 : decode cX4_readCall 76 = .ok (.ifCond .eq 22, 3) := by decide +kernel
theorem dX4_readCall_79 : decode cX4_readCall 79 = .ok (.aload_n 0, 1) := by decide +kernel
theorem dX4_readCall_80 : decode cX4_readCall 80 = .ok (.invokevirtual 192, 3) := by decide +kernel
theorem dX4_readCall_83 : decode cX4_readCall 83 = .ok (.ifCond .eq 15, 3) := by decide +kernel
theorem dX4_readCall_86 : decode cX4_readCall 86 = .ok (.aload_n 0, 1) := by decide +kernel
theorem dX4_readCall_87 : decode cX4_readCall 87 = .ok (.iload_n 1, 1) := by decide +kernel
theorem dX4_readCall_88 : decode cX4_readCall 88 = .ok (.invokevirtual 183, 3) := by decide +kernel
theorem dX4_readCall_91 : decode cX4_readCall 91 = .ok (.ifCond .eq 7, 3) := by decide +kernel
theorem dX4_readCall_94 : decode cX4_readCall 94 = .ok (.iconst 1, 1) := by decide +kernel
theorem dX4_readCall_95 : decode cX4_readCall 95 = .ok (.goto 4, 3) := by decide +kernel
theorem dX4_readCall_98 : decode cX4_readCall 98 = .ok (.iconst 0, 1) := by decide +kernel
theorem dX4_readCall_99 : decode cX4_readCall 99 = .ok (.ireturn, 1) := by decide +kernel
def bX4_readCall (g : Nat → MS) : St := (seqS (ifS (notX (ne0 (calX decI (ckV 4 1) mX4_isSign (agC va_rf (lvR 0) (agC Value.int (ciI (iI 40)) agN))))) (retI (calX decI (ckV 4 0) mX4_isWrong (agC va_rf (lvR 0) agN)))) (seqS (ifS (notX (ne0 (calX decI (ckV 4 0) mX4_opens (agC va_rf (lvR 0) agN)))) (retI (ciI (iI 0)))) (seqS (ifS (andX (eqI (lvI 1) (ciI (iI 24))) (notX (andX (ne0 (calX decI (ckV 4 0) (g 0) (agC va_rf (lvR 0) agN))) (ne0 (calX decI (ckV 4 1) mX4_takes (agC va_rf (lvR 0) (agC Value.int (ciI (iI 44)) agN))))))) (retI (ciI (iI 0)))) (retI (iteX (andX (andX (andX (andX (andX (ne0 (calX decI (ckV 4 0) (g 4) (agC va_rf (lvR 0) agN))) (ne0 (calX decI (ckV 4 1) mX4_takes (agC va_rf (lvR 0) (agC Value.int (ciI (iI 44)) agN))))) (ne0 (calX decI (ckV 4 0) (g 4) (agC va_rf (lvR 0) agN)))) (ne0 (calX decI (ckV 4 1) mX4_takes (agC va_rf (lvR 0) (agC Value.int (ciI (iI 41)) agN))))) (ne0 (calX decI (ckV 4 0) mX4_closes (agC va_rf (lvR 0) agN)))) (ne0 (calX decI (ckV 4 1) mX4_adds (agC va_rf (lvR 0) (agC Value.int (lvI 1) agN))))) (ciI (iI 1)) (ciI (iI 0)))))))
theorem jX4_readCall {n : Nat} {g : Nat → MS} (hg : ∀ w, w < 8 → MA (gpY w) (gpC w) (gpL w) (some .boolean) (12 + n) (g w)) : JS (RX4, cX4_readCall, 2, 12 + (n + 1), false) 0 0 0 100 [] (bX4_readCall g) := by
  have a0 : MA yX4_readTest cX4_readTest 3 (some (.boolean)) (12 + n) (g 0) := hg 0 (by decide)
  have a4 : MA yX4_readSum cX4_readSum 4 (some (.boolean)) (12 + n) (g 4) := hg 4 (by decide)
  exact (JS.seq (pc1 := 14) (JS.iff (l := 14) (pc1 := 9) (CJ.not_f (CJ.ne0_t (tgt := 14) (pc1 := 6) (JX.call (pc1 := 3) decI_ok (JA.r (JX.al (k := 0) rfl dX4_readCall_0) (JA.i (JX.bp (n := 40) kb40 dX4_readCall_1) JA.nil)) aX4_isSign (RunK.V (i := 140) (c := 4) (n := 1) cl4 rfl (CN nX4_isSign (show 1 + 1 ≤ 12 + (n + 1) by omega) (by decide)) gw719 gw721 gs21 dX4_readCall_3) (by decide)) dX4_readCall_6 rfl)) (JS.retI (pc1 := 13) (JX.call (pc1 := 10) decI_ok (JA.r (JX.al (k := 0) rfl dX4_readCall_9) JA.nil) aX4_isWrong (RunK.V (i := 98) (c := 4) (n := 0) cl4 rfl (CN nX4_isWrong (show 2 + 1 ≤ 12 + (n + 1) by omega) (by decide)) gw670 gw672 gs11 dX4_readCall_10) (by decide)) dX4_readCall_13) (Or.inl rfl)) (JS.seq (pc1 := 23) (JS.iff (l := 23) (pc1 := 21) (CJ.not_f (CJ.ne0_t (tgt := 23) (pc1 := 18) (JX.call (pc1 := 15) decI_ok (JA.r (JX.al (k := 0) rfl dX4_readCall_14) JA.nil) aX4_opens (RunK.V (i := 189) (c := 4) (n := 0) cl4 rfl (CN nX4_opens (show 3 + 1 ≤ 12 + (n + 1) by omega) (by decide)) gw707 gw709 gs18 dX4_readCall_15) (by decide)) dX4_readCall_18 rfl)) (JS.retI (pc1 := 22) (JX.ic (n := 0) rfl dX4_readCall_21) dX4_readCall_22) (Or.inl rfl)) (JS.seq (pc1 := 47) (JS.iff (l := 47) (pc1 := 45) (CJ.and_f (pc1 := 29) (CJ.eq_f (tgt := 47) (pc1 := 24) (pc2 := 26) (JX.il (k := 1) rfl dX4_readCall_23) (JX.bp (n := 24) kb24 dX4_readCall_24) dX4_readCall_26 rfl) (CJ.not_f (CJ.and_t (l := 45) (pc1 := 36) (CJ.ne0_f (tgt := 45) (pc1 := 33) (JX.call (pc1 := 30) decI_ok (JA.r (JX.al (k := 0) rfl dX4_readCall_29) JA.nil) a0 (RunK.V (i := 174) (c := 4) (n := 0) cl4 rfl (CN nX4_readTest (show 12 + n + 1 ≤ 12 + (n + 1) by omega) (by decide)) gw691 gw693 gs14 dX4_readCall_30) (by decide)) dX4_readCall_33 rfl) (CJ.ne0_t (tgt := 47) (pc1 := 42) (JX.call (pc1 := 39) decI_ok (JA.r (JX.al (k := 0) rfl dX4_readCall_36) (JA.i (JX.bp (n := 44) kb44 dX4_readCall_37) JA.nil)) aX4_takes (RunK.V (i := 150) (c := 4) (n := 1) cl4 rfl (CN nX4_takes (show 3 + 1 ≤ 12 + (n + 1) by omega) (by decide)) gw723 gw725 gs22 dX4_readCall_39) (by decide)) dX4_readCall_42 rfl) (Or.inl rfl)))) (JS.retI (pc1 := 46) (JX.ic (n := 0) rfl dX4_readCall_45) dX4_readCall_46) (Or.inl rfl)) (JS.retI (pc1 := 99) (JX.ite (l := 98) (pc1 := 94) (pc2 := 95) (pc3 := 99) (lend := 99) (CJ.and_f (pc1 := 86) (CJ.and_f (pc1 := 79) (CJ.and_f (pc1 := 70) (CJ.and_f (pc1 := 63) (CJ.and_f (pc1 := 54) (CJ.ne0_f (tgt := 98) (pc1 := 51) (JX.call (pc1 := 48) decI_ok (JA.r (JX.al (k := 0) rfl dX4_readCall_47) JA.nil) a4 (RunK.V (i := 195) (c := 4) (n := 0) cl4 rfl (CN nX4_readSum (show 12 + n + 1 ≤ 12 + (n + 1) by omega) (by decide)) gw727 gw729 gs23 dX4_readCall_48) (by decide)) dX4_readCall_51 rfl) (CJ.ne0_f (tgt := 98) (pc1 := 60) (JX.call (pc1 := 57) decI_ok (JA.r (JX.al (k := 0) rfl dX4_readCall_54) (JA.i (JX.bp (n := 44) kb44 dX4_readCall_55) JA.nil)) aX4_takes (RunK.V (i := 150) (c := 4) (n := 1) cl4 rfl (CN nX4_takes (show 3 + 1 ≤ 12 + (n + 1) by omega) (by decide)) gw723 gw725 gs22 dX4_readCall_57) (by decide)) dX4_readCall_60 rfl)) (CJ.ne0_f (tgt := 98) (pc1 := 67) (JX.call (pc1 := 64) decI_ok (JA.r (JX.al (k := 0) rfl dX4_readCall_63) JA.nil) a4 (RunK.V (i := 195) (c := 4) (n := 0) cl4 rfl (CN nX4_readSum (show 12 + n + 1 ≤ 12 + (n + 1) by omega) (by decide)) gw727 gw729 gs23 dX4_readCall_64) (by decide)) dX4_readCall_67 rfl)) (CJ.ne0_f (tgt := 98) (pc1 := 76) (JX.call (pc1 := 73) decI_ok (JA.r (JX.al (k := 0) rfl dX4_readCall_70) (JA.i (JX.bp (n := 41) kb41 dX4_readCall_71) JA.nil)) aX4_takes (RunK.V (i := 150) (c := 4) (n := 1) cl4 rfl (CN nX4_takes (show 3 + 1 ≤ 12 + (n + 1) by omega) (by decide)) gw723 gw725 gs22 dX4_readCall_73) (by decide)) dX4_readCall_76 rfl)) (CJ.ne0_f (tgt := 98) (pc1 := 83) (JX.call (pc1 := 80) decI_ok (JA.r (JX.al (k := 0) rfl dX4_readCall_79) JA.nil) aX4_closes (RunK.V (i := 192) (c := 4) (n := 0) cl4 rfl (CN nX4_closes (show 1 + 1 ≤ 12 + (n + 1) by omega) (by decide)) gw711 gw713 gs19 dX4_readCall_80) (by decide)) dX4_readCall_83 rfl)) (CJ.ne0_f (tgt := 98) (pc1 := 91) (JX.call (pc1 := 88) decI_ok (JA.r (JX.al (k := 0) rfl dX4_readCall_86) (JA.i (JX.il (k := 1) rfl dX4_readCall_87) JA.nil)) aX4_adds (RunK.V (i := 183) (c := 4) (n := 1) cl4 rfl (CN nX4_adds (show 3 + 1 ≤ 12 + (n + 1) by omega) (by decide)) gw715 gw717 gs20 dX4_readCall_88) (by decide)) dX4_readCall_91 rfl)) (JX.ic (n := 1) rfl dX4_readCall_94) dX4_readCall_95 rfl (JX.ic (n := 0) rfl dX4_readCall_98) (Or.inl rfl)) dX4_readCall_99))))
def rdG : Nat → Nat → MS
  | 0, _ => fun _ _ => none
  | n + 1, w => match w with
    | 0 => runM 3 (some (.boolean)) (bX4_readTest (rdG n))
    | 1 => runM 3 (some (.boolean)) (bX4_readBoth (rdG n))
    | 2 => runM 1 (some (.boolean)) (bX4_readFact (rdG n))
    | 3 => runM 2 (some (.boolean)) (bX4_readComparison (rdG n))
    | 4 => runM 4 (some (.boolean)) (bX4_readSum (rdG n))
    | 5 => runM 4 (some (.boolean)) (bX4_readProduct (rdG n))
    | 6 => runM 2 (some (.boolean)) (bX4_readPart (rdG n))
    | _ => runM 2 (some (.boolean)) (bX4_readCall (rdG n))
theorem eX4_readTest (n : Nat) (a0 : Nat) (h : AH) : rdG (n + 1) 0 [.ref a0] h = (bX4_readTest (rdG n) [.val (.ref a0), .unset, .unset] h).bind (finM (some (.boolean))) := rfl
theorem eX4_readBoth (n : Nat) (a0 : Nat) (h : AH) : rdG (n + 1) 1 [.ref a0] h = (bX4_readBoth (rdG n) [.val (.ref a0), .unset, .unset] h).bind (finM (some (.boolean))) := rfl
theorem eX4_readFact (n : Nat) (a0 : Nat) (h : AH) : rdG (n + 1) 2 [.ref a0] h = (bX4_readFact (rdG n) [.val (.ref a0)] h).bind (finM (some (.boolean))) := rfl
theorem eX4_readComparison (n : Nat) (a0 : Nat) (h : AH) : rdG (n + 1) 3 [.ref a0] h = (bX4_readComparison (rdG n) [.val (.ref a0), .unset] h).bind (finM (some (.boolean))) := rfl
theorem eX4_readSum (n : Nat) (a0 : Nat) (h : AH) : rdG (n + 1) 4 [.ref a0] h = (bX4_readSum (rdG n) [.val (.ref a0), .unset, .unset, .unset] h).bind (finM (some (.boolean))) := rfl
theorem eX4_readProduct (n : Nat) (a0 : Nat) (h : AH) : rdG (n + 1) 5 [.ref a0] h = (bX4_readProduct (rdG n) [.val (.ref a0), .unset, .unset, .unset] h).bind (finM (some (.boolean))) := rfl
theorem eX4_readPart (n : Nat) (a0 : Nat) (h : AH) : rdG (n + 1) 6 [.ref a0] h = (bX4_readPart (rdG n) [.val (.ref a0), .unset] h).bind (finM (some (.boolean))) := rfl
theorem eX4_readCall (n : Nat) (a0 : Nat) (a1 : Int32) (h : AH) : rdG (n + 1) 7 [.ref a0, .int a1] h = (bX4_readCall (rdG n) [.val (.ref a0), .val (.int a1)] h).bind (finM (some (.boolean))) := rfl
theorem rdG_all : ∀ n w, w < 8 → MA (gpY w) (gpC w) (gpL w) (some .boolean) (12 + n) (rdG n w) := by
  intro n
  induction n with
  | zero => intro w hw vs h v h' e; cases e
  | succ n ih =>
    intro w hw
    match w, hw with
    | 0, _ => exact MA.of (y := yX4_readTest) (plainFor_of_name (by decide)) (jX4_readTest ih)
    | 1, _ => exact MA.of (y := yX4_readBoth) (plainFor_of_name (by decide)) (jX4_readBoth ih)
    | 2, _ => exact MA.of (y := yX4_readFact) (plainFor_of_name (by decide)) (jX4_readFact ih)
    | 3, _ => exact MA.of (y := yX4_readComparison) (plainFor_of_name (by decide)) (jX4_readComparison ih)
    | 4, _ => exact MA.of (y := yX4_readSum) (plainFor_of_name (by decide)) (jX4_readSum ih)
    | 5, _ => exact MA.of (y := yX4_readProduct) (plainFor_of_name (by decide)) (jX4_readProduct ih)
    | 6, _ => exact MA.of (y := yX4_readPart) (plainFor_of_name (by decide)) (jX4_readPart ih)
    | 7, _ => exact MA.of (y := yX4_readCall) (plainFor_of_name (by decide)) (jX4_readCall ih)
    | w + 8, hw => exact absurd hw (by omega)
theorem aX4_readTest : MA yX4_readTest cX4_readTest 3 (some (.boolean)) 112 (rdG 100 0) := rdG_all 100 0 (by decide)
theorem aX4_readBoth : MA yX4_readBoth cX4_readBoth 3 (some (.boolean)) 112 (rdG 100 1) := rdG_all 100 1 (by decide)
theorem aX4_readFact : MA yX4_readFact cX4_readFact 1 (some (.boolean)) 112 (rdG 100 2) := rdG_all 100 2 (by decide)
theorem aX4_readComparison : MA yX4_readComparison cX4_readComparison 2 (some (.boolean)) 112 (rdG 100 3) := rdG_all 100 3 (by decide)
theorem aX4_readSum : MA yX4_readSum cX4_readSum 4 (some (.boolean)) 112 (rdG 100 4) := rdG_all 100 4 (by decide)
theorem aX4_readProduct : MA yX4_readProduct cX4_readProduct 4 (some (.boolean)) 112 (rdG 100 5) := rdG_all 100 5 (by decide)
theorem aX4_readPart : MA yX4_readPart cX4_readPart 2 (some (.boolean)) 112 (rdG 100 6) := rdG_all 100 6 (by decide)
theorem aX4_readCall : MA yX4_readCall cX4_readCall 2 (some (.boolean)) 112 (rdG 100 7) := rdG_all 100 7 (by decide)
