/-! ===== by program: mk20.py: methods ===== -/
/-! Rules.isHook -/
theorem dX6_isHook_0 : decode cX6_isHook 0 = .ok (.aload_n 0, 1) := by decide +kernel
theorem dX6_isHook_1 : decode cX6_isHook 1 = .ok (.getfield 25, 3) := by decide +kernel
theorem dX6_isHook_4 : decode cX6_isHook 4 = .ok (.getfield 56, 3) := by decide +kernel
theorem dX6_isHook_7 : decode cX6_isHook 7 = .ok (.invokevirtual 66, 3) := by decide +kernel
theorem dX6_isHook_10 : decode cX6_isHook 10 = .ok (.ifCond .ne 15, 3) := by decide +kernel
theorem dX6_isHook_13 : decode cX6_isHook 13 = .ok (.iload_n 2, 1) := by decide +kernel
theorem dX6_isHook_14 : decode cX6_isHook 14 = .ok (.iconst 2, 1) := by decide +kernel
theorem dX6_isHook_15 : decode cX6_isHook 15 = .ok (.irem, 1) := by decide +kernel
theorem dX6_isHook_16 : decode cX6_isHook 16 = .ok (.ifCond .ne 7, 3) := by decide +kernel
theorem dX6_isHook_19 : decode cX6_isHook 19 = .ok (.iconst 1, 1) := by decide +kernel
theorem dX6_isHook_20 : decode cX6_isHook 20 = .ok (.goto 4, 3) := by decide +kernel
theorem dX6_isHook_23 : decode cX6_isHook 23 = .ok (.iconst 0, 1) := by decide +kernel
theorem dX6_isHook_24 : decode cX6_isHook 24 = .ok (.ireturn, 1) := by decide +kernel
theorem dX6_isHook_25 : decode cX6_isHook 25 = .ok (.aload_n 0, 1) := by decide +kernel
theorem dX6_isHook_26 : decode cX6_isHook 26 = .ok (.getfield 31, 3) := by decide +kernel
theorem dX6_isHook_29 : decode cX6_isHook 29 = .ok (.bipush 13, 2) := by decide +kernel
theorem dX6_isHook_31 : decode cX6_isHook 31 = .ok (.iload_n 1, 1) := by decide +kernel
theorem dX6_isHook_32 : decode cX6_isHook 32 = .ok (.invokevirtual 70, 3) := by decide +kernel
theorem dX6_isHook_35 : decode cX6_isHook 35 = .ok (.aload_n 0, 1) := by decide +kernel
theorem dX6_isHook_36 : decode cX6_isHook 36 = .ok (.getfield 31, 3) := by decide +kernel
theorem dX6_isHook_39 : decode cX6_isHook 39 = .ok (.bipush 17, 2) := by decide +kernel
theorem dX6_isHook_41 : decode cX6_isHook 41 = .ok (.iload_n 2, 1) := by decide +kernel
theorem dX6_isHook_42 : decode cX6_isHook 42 = .ok (.invokevirtual 70, 3) := by decide +kernel
theorem dX6_isHook_45 : decode cX6_isHook 45 = .ok (.aload_n 0, 1) := by decide +kernel
theorem dX6_isHook_46 : decode cX6_isHook 46 = .ok (.getfield 31, 3) := by decide +kernel
theorem dX6_isHook_49 : decode cX6_isHook 49 = .ok (.bipush 15, 2) := by decide +kernel
theorem dX6_isHook_51 : decode cX6_isHook 51 = .ok (.iload_n 3, 1) := by decide +kernel
theorem dX6_isHook_52 : decode cX6_isHook 52 = .ok (.invokevirtual 70, 3) := by decide +kernel
theorem dX6_isHook_55 : decode cX6_isHook 55 = .ok (.aload_n 0, 1) := by decide +kernel
theorem dX6_isHook_56 : decode cX6_isHook 56 = .ok (.getfield 31, 3) := by decide +kernel
theorem dX6_isHook_59 : decode cX6_isHook 59 = .ok (.bipush 18, 2) := by decide +kernel
theorem dX6_isHook_61 : decode cX6_isHook 61 = .ok (.iload 4, 2) := by decide +kernel
theorem dX6_isHook_63 : decode cX6_isHook 63 = .ok (.invokevirtual 70, 3) := by decide +kernel
theorem dX6_isHook_66 : decode cX6_isHook 66 = .ok (.aload_n 0, 1) := by decide +kernel
theorem dX6_isHook_67 : decode cX6_isHook 67 = .ok (.getfield 25, 3) := by decide +kernel
theorem dX6_isHook_70 : decode cX6_isHook 70 = .ok (.aload_n 0, 1) := by decide +kernel
theorem dX6_isHook_71 : decode cX6_isHook 71 = .ok (.getfield 31, 3) := by decide +kernel
theorem dX6_isHook_74 : decode cX6_isHook 74 = .ok (.invokevirtual 73, 3) := by decide +kernel
theorem dX6_isHook_77 : decode cX6_isHook 77 = .ok (.ireturn, 1) := by decide +kernel
abbrev MX6_isHook : MI := (RX6, cX6_isHook, 5, 4, false)
def bX6_isHook : St := (seqS (ifS (eq0 (calX decI (ckV 5 0) mX5_size (agC va_rf (getR 0 0 (getR 6 2 (lvR 0))) agN))) (retI (iteX (eq0 (remI (lvI 2) (ciI (iI 2)))) (ciI (iI 1)) (ciI (iI 0))))) (seqS (calS (ckV 5 2) mX5_put (agC va_rf (getR 6 4 (lvR 0)) (agC Value.int (ciI (iI 13)) (agC Value.int (lvI 1) agN)))) (seqS (calS (ckV 5 2) mX5_put (agC va_rf (getR 6 4 (lvR 0)) (agC Value.int (ciI (iI 17)) (agC Value.int (lvI 2) agN)))) (seqS (calS (ckV 5 2) mX5_put (agC va_rf (getR 6 4 (lvR 0)) (agC Value.int (ciI (iI 15)) (agC Value.int (lvI 3) agN)))) (seqS (calS (ckV 5 2) mX5_put (agC va_rf (getR 6 4 (lvR 0)) (agC Value.int (ciI (iI 18)) (agC Value.int (lvI 4) agN)))) (retI (calX decI (ckV 0 1) mX0_holds (agC va_rf (getR 6 2 (lvR 0)) (agC va_rf (getR 6 4 (lvR 0)) agN)))))))))
theorem jX6_isHook : JS MX6_isHook 0 0 0 78 [] bX6_isHook :=
  (JS.seq (pc1 := 25) (JS.iff (l := 25) (pc1 := 13) (CJ.eq0_f (tgt := 25) (pc1 := 10) (JX.call (pc1 := 7) decI_ok (JA.r (JX.getR (pc1 := 4) (c := 0) (k := 0) (i := 56) (JX.getR (pc1 := 1) (c := 6) (k := 2) (i := 25) (JX.al (k := 0) rfl dX6_isHook_0) cl6 (by decide) rfl fk6_25 dX6_isHook_1) cl0 (by decide) rfl fk6_56 dX6_isHook_4) JA.nil) aX5_size (RunK.V (i := 66) (c := 5) (n := 0) cl5 rfl (CN nX5_size (by decide) (by decide)) gw862 gw587 gw588 dX6_isHook_7) (by decide)) dX6_isHook_10 rfl) (JS.retI (pc1 := 24) (JX.ite (l := 23) (pc1 := 19) (pc2 := 20) (pc3 := 24) (lend := 24) (CJ.eq0_f (tgt := 23) (pc1 := 16) (JX.irem (pc1 := 14) (pc2 := 15) (JX.il (k := 2) rfl dX6_isHook_13) (JX.ic (n := 2) rfl dX6_isHook_14) dX6_isHook_15) dX6_isHook_16 rfl) (JX.ic (n := 1) rfl dX6_isHook_19) dX6_isHook_20 rfl (JX.ic (n := 0) rfl dX6_isHook_23) (Or.inl rfl)) dX6_isHook_24) (Or.inl rfl)) (JS.seq (pc1 := 35) (JS.call (pc1 := 32) (JA.r (JX.getR (pc1 := 26) (c := 6) (k := 4) (i := 31) (JX.al (k := 0) rfl dX6_isHook_25) cl6 (by decide) rfl fk6_31 dX6_isHook_26) (JA.i (JX.bp (n := 13) kb13 dX6_isHook_29) (JA.i (JX.il (k := 1) rfl dX6_isHook_31) JA.nil))) aX5_put (RunK.V (i := 70) (c := 5) (n := 2) cl5 rfl (CN nX5_put (by decide) (by decide)) gw863 gw599 gw600 dX6_isHook_32)) (JS.seq (pc1 := 45) (JS.call (pc1 := 42) (JA.r (JX.getR (pc1 := 36) (c := 6) (k := 4) (i := 31) (JX.al (k := 0) rfl dX6_isHook_35) cl6 (by decide) rfl fk6_31 dX6_isHook_36) (JA.i (JX.bp (n := 17) kb17 dX6_isHook_39) (JA.i (JX.il (k := 2) rfl dX6_isHook_41) JA.nil))) aX5_put (RunK.V (i := 70) (c := 5) (n := 2) cl5 rfl (CN nX5_put (by decide) (by decide)) gw863 gw599 gw600 dX6_isHook_42)) (JS.seq (pc1 := 55) (JS.call (pc1 := 52) (JA.r (JX.getR (pc1 := 46) (c := 6) (k := 4) (i := 31) (JX.al (k := 0) rfl dX6_isHook_45) cl6 (by decide) rfl fk6_31 dX6_isHook_46) (JA.i (JX.bp (n := 15) kb15 dX6_isHook_49) (JA.i (JX.il (k := 3) rfl dX6_isHook_51) JA.nil))) aX5_put (RunK.V (i := 70) (c := 5) (n := 2) cl5 rfl (CN nX5_put (by decide) (by decide)) gw863 gw599 gw600 dX6_isHook_52)) (JS.seq (pc1 := 66) (JS.call (pc1 := 63) (JA.r (JX.getR (pc1 := 56) (c := 6) (k := 4) (i := 31) (JX.al (k := 0) rfl dX6_isHook_55) cl6 (by decide) rfl fk6_31 dX6_isHook_56) (JA.i (JX.bp (n := 18) kb18 dX6_isHook_59) (JA.i (JX.il2 dX6_isHook_61) JA.nil))) aX5_put (RunK.V (i := 70) (c := 5) (n := 2) cl5 rfl (CN nX5_put (by decide) (by decide)) gw863 gw599 gw600 dX6_isHook_63)) (JS.retI (pc1 := 77) (JX.call (pc1 := 74) decI_ok (JA.r (JX.getR (pc1 := 67) (c := 6) (k := 2) (i := 25) (JX.al (k := 0) rfl dX6_isHook_66) cl6 (by decide) rfl fk6_25 dX6_isHook_67) (JA.r (JX.getR (pc1 := 71) (c := 6) (k := 4) (i := 31) (JX.al (k := 0) rfl dX6_isHook_70) cl6 (by decide) rfl fk6_31 dX6_isHook_71) JA.nil)) aX0_holds (RunK.V (i := 73) (c := 0) (n := 1) cl0 rfl (CN nX0_holds (by decide) (by decide)) gw864 gw865 gw866 dX6_isHook_74) (by decide)) dX6_isHook_77))))))
def mX6_isHook : MS := runM 5 (some (.boolean)) bX6_isHook
theorem aX6_isHook : MA yX6_isHook cX6_isHook 5 (some (.boolean)) 4 mX6_isHook := MA.of (plainFor_of_name (by decide)) jX6_isHook
theorem eX6_isHook (a0 : Nat) (a1 : Int32) (a2 : Int32) (a3 : Int32) (a4 : Int32) (h : AH) : mX6_isHook [.ref a0, .int a1, .int a2, .int a3, .int a4] h = (bX6_isHook [.val (.ref a0), .val (.int a1), .val (.int a2), .val (.int a3), .val (.int a4)] h).bind (finM (some (.boolean))) := rfl
/-! Saver.readPieces -/
theorem dX7_readPieces_0 : decode cX7_readPieces 0 = .ok (.aload_n 0, 1) := by decide +kernel
theorem dX7_readPieces_1 : decode cX7_readPieces 1 = .ok (.getfield 18, 3) := by decide +kernel
theorem dX7_readPieces_4 : decode cX7_readPieces 4 = .ok (.invokevirtual 87, 3) := by decide +kernel
theorem dX7_readPieces_7 : decode cX7_readPieces 7 = .ok (.aload_n 0, 1) := by decide +kernel
theorem dX7_readPieces_8 : decode cX7_readPieces 8 = .ok (.getfield 21, 3) := by decide +kernel
theorem dX7_readPieces_11 : decode cX7_readPieces 11 = .ok (.invokevirtual 87, 3) := by decide +kernel
theorem dX7_readPieces_14 : decode cX7_readPieces 14 = .ok (.aload_n 1, 1) := by decide +kernel
theorem dX7_readPieces_15 : decode cX7_readPieces 15 = .ok (.getfield 90, 3) := by decide +kernel
theorem dX7_readPieces_18 : decode cX7_readPieces 18 = .ok (.astore 4, 2) := by decide +kernel
theorem dX7_readPieces_20 : decode cX7_readPieces 20 = .ok (.iload_n 2, 1) := by decide +kernel
theorem dX7_readPieces_21 : decode cX7_readPieces 21 = .ok (.istore 5, 2) := by decide +kernel
theorem dX7_readPieces_23 : decode cX7_readPieces 23 = .ok (.iload 5, 2) := by decide +kernel
theorem dX7_readPieces_25 : decode cX7_readPieces 25 = .ok (.iload_n 3, 1) := by decide +kernel
theorem dX7_readPieces_26 : decode cX7_readPieces 26 = .ok (.if_icmp .ge 100, 3) := by decide +kernel
theorem dX7_readPieces_29 : decode cX7_readPieces 29 = .ok (.aload_n 1, 1) := by decide +kernel
theorem dX7_readPieces_30 : decode cX7_readPieces 30 = .ok (.getfield 49, 3) := by decide +kernel
theorem dX7_readPieces_33 : decode cX7_readPieces 33 = .ok (.aload 4, 2) := by decide +kernel
theorem dX7_readPieces_35 : decode cX7_readPieces 35 = .ok (.getfield 94, 3) := by decide +kernel
theorem dX7_readPieces_38 : decode cX7_readPieces 38 = .ok (.aload 4, 2) := by decide +kernel
theorem dX7_readPieces_40 : decode cX7_readPieces 40 = .ok (.iload 5, 2) := by decide +kernel
theorem dX7_readPieces_42 : decode cX7_readPieces 42 = .ok (.invokevirtual 99, 3) := by decide +kernel
theorem dX7_readPieces_45 : decode cX7_readPieces 45 = .ok (.aload 4, 2) := by decide +kernel
theorem dX7_readPieces_47 : decode cX7_readPieces 47 = .ok (.iload 5, 2) := by decide +kernel
theorem dX7_readPieces_49 : decode cX7_readPieces 49 = .ok (.invokevirtual 102, 3) := by decide +kernel
theorem dX7_readPieces_52 : decode cX7_readPieces 52 = .ok (.invokevirtual 105, 3) := by decide +kernel
theorem dX7_readPieces_55 : decode cX7_readPieces 55 = .ok (.istore 6, 2) := by decide +kernel
theorem dX7_readPieces_57 : decode cX7_readPieces 57 = .ok (.aload_n 1, 1) := by decide +kernel
theorem dX7_readPieces_58 : decode cX7_readPieces 58 = .ok (.getfield 49, 3) := by decide +kernel
theorem dX7_readPieces_61 : decode cX7_readPieces 61 = .ok (.getfield 111, 3) := by decide +kernel
theorem dX7_readPieces_64 : decode cX7_readPieces 64 = .ok (.iload 6, 2) := by decide +kernel
theorem dX7_readPieces_66 : decode cX7_readPieces 66 = .ok (.invokevirtual 74, 3) := by decide +kernel
theorem dX7_readPieces_69 : decode cX7_readPieces 69 = .ok (.istore 7, 2) := by decide +kernel
theorem dX7_readPieces_71 : decode cX7_readPieces 71 = .ok (.aload_n 0, 1) := by decide +kernel
theorem dX7_readPieces_72 : decode cX7_readPieces 72 = .ok (.getfield 18, 3) := by decide +kernel
theorem dX7_readPieces_75 : decode cX7_readPieces 75 = .ok (.iload 6, 2) := by decide +kernel
theorem dX7_readPieces_77 : decode cX7_readPieces 77 = .ok (.invokevirtual 71, 3) := by decide +kernel
theorem dX7_readPieces_80 : decode cX7_readPieces 80 = .ok (.aload_n 0, 1) := by decide +kernel
theorem dX7_readPieces_81 : decode cX7_readPieces 81 = .ok (.getfield 21, 3) := by decide +kernel
theorem dX7_readPieces_84 : decode cX7_readPieces 84 = .ok (.aload_n 1, 1) := by decide +kernel
theorem dX7_readPieces_85 : decode cX7_readPieces 85 = .ok (.getfield 57, 3) := by decide +kernel
theorem dX7_readPieces_88 : decode cX7_readPieces 88 = .ok (.aload_n 1, 1) := by decide +kernel
theorem dX7_readPieces_89 : decode cX7_readPieces 89 = .ok (.getfield 114, 3) := by decide +kernel
theorem dX7_readPieces_92 : decode cX7_readPieces 92 = .ok (.getfield 118, 3) := by decide +kernel
theorem dX7_readPieces_95 : decode cX7_readPieces 95 = .ok (.iload 7, 2) := by decide +kernel
theorem dX7_readPieces_97 : decode cX7_readPieces 97 = .ok (.aload 4, 2) := by decide +kernel
theorem dX7_readPieces_99 : decode cX7_readPieces 99 = .ok (.iload 5, 2) := by decide +kernel
theorem dX7_readPieces_101 : decode cX7_readPieces 101 = .ok (.invokevirtual 102, 3) := by decide +kernel
theorem dX7_readPieces_104 : decode cX7_readPieces 104 = .ok (.iload 5, 2) := by decide +kernel
theorem dX7_readPieces_106 : decode cX7_readPieces 106 = .ok (.invokevirtual 124, 3) := by decide +kernel
theorem dX7_readPieces_109 : decode cX7_readPieces 109 = .ok (.ifCond .eq 7, 3) := by decide +kernel
theorem dX7_readPieces_112 : decode cX7_readPieces 112 = .ok (.iconst 1, 1) := by decide +kernel
theorem dX7_readPieces_113 : decode cX7_readPieces 113 = .ok (.goto 4, 3) := by decide +kernel
theorem dX7_readPieces_116 : decode cX7_readPieces 116 = .ok (.iconst 0, 1) := by decide +kernel
theorem dX7_readPieces_117 : decode cX7_readPieces 117 = .ok (.invokevirtual 71, 3) := by decide +kernel
theorem dX7_readPieces_120 : decode cX7_readPieces 120 = .ok (.iinc 5 1, 3) := by decide +kernel
theorem dX7_readPieces_123 : decode cX7_readPieces 123 = .ok (.goto (-100), 3) := by decide +kernel
theorem dX7_readPieces_126 : decode cX7_readPieces 126 = .ok (.return_, 1) := by decide +kernel
abbrev MX7_readPieces : MI := (RX7, cX7_readPieces, 8, 5, false)
def lcX7_readPieces_1 : Ex Bool := (ltI (lvI 5) (lvI 3))
def lbX7_readPieces_1 : St := (forB (scS 6 (seqS (lsI 6 (calX decI (ckV 3 3) mX3_findOrAdd (agC va_rf (getR 10 2 (lvR 1)) (agC va_rf (getR 1 0 (lvR 4)) (agC Value.int (calX decI (ckV 1 1) mX1_firstOf (agC va_rf (lvR 4) (agC Value.int (lvI 5) agN))) (agC Value.int (calX decI (ckV 1 1) mX1_lengthOf (agC va_rf (lvR 4) (agC Value.int (lvI 5) agN))) agN)))))) (seqS (lsI 7 (calX decI (ckV 5 1) mX5_at (agC va_rf (getR 3 3 (getR 10 2 (lvR 1))) (agC Value.int (lvI 6) agN)))) (seqS (calS (ckV 5 1) mX5_add (agC va_rf (getR 7 1 (lvR 0)) (agC Value.int (lvI 6) agN))) (calS (ckV 5 1) mX5_add (agC va_rf (getR 7 2 (lvR 0)) (agC Value.int (iteX (ne0 (calX decI (ckV 6 4) mX6_isHook (agC va_rf (getR 10 0 (lvR 1)) (agC Value.int (getI 9 10 (getR 10 10 (lvR 1))) (agC Value.int (lvI 7) (agC Value.int (calX decI (ckV 1 1) mX1_lengthOf (agC va_rf (lvR 4) (agC Value.int (lvI 5) agN))) (agC Value.int (lvI 5) agN))))))) (ciI (iI 1)) (ciI (iI 0))) agN))))))) (incI 5 (iI 1)))
def bX7_readPieces : St := (seqS (calS (ckV 5 0) mX5_clear (agC va_rf (getR 7 1 (lvR 0)) agN)) (seqS (calS (ckV 5 0) mX5_clear (agC va_rf (getR 7 2 (lvR 0)) agN)) (seqS (lsR 4 (getR 10 1 (lvR 1))) (seqS (scS 5 (seqS (lsI 5 (lvI 2)) (whileS lcX7_readPieces_1 lbX7_readPieces_1))) retV))))
theorem jX7_readPieces : JS MX7_readPieces 0 0 0 127 [] bX7_readPieces :=
  (JS.seq (pc1 := 7) (JS.call (pc1 := 4) (JA.r (JX.getR (pc1 := 1) (c := 7) (k := 1) (i := 18) (JX.al (k := 0) rfl dX7_readPieces_0) cl7 (by decide) rfl fk7_18 dX7_readPieces_1) JA.nil) aX5_clear (RunK.V (i := 87) (c := 5) (n := 0) cl5 rfl (CN nX5_clear (by decide) (by decide)) gw1178 gw209 gw210 dX7_readPieces_4)) (JS.seq (pc1 := 14) (JS.call (pc1 := 11) (JA.r (JX.getR (pc1 := 8) (c := 7) (k := 2) (i := 21) (JX.al (k := 0) rfl dX7_readPieces_7) cl7 (by decide) rfl fk7_21 dX7_readPieces_8) JA.nil) aX5_clear (RunK.V (i := 87) (c := 5) (n := 0) cl5 rfl (CN nX5_clear (by decide) (by decide)) gw1178 gw209 gw210 dX7_readPieces_11)) (JS.seq (pc1 := 20) (JS.as2 (pc1 := 18) (JX.getR (pc1 := 15) (c := 10) (k := 1) (i := 90) (JX.al (k := 1) rfl dX7_readPieces_14) cl10 (by decide) rfl fk7_90 dX7_readPieces_15) (show 4 < 8 by decide) dX7_readPieces_18) (JS.seq (pc1 := 126) (JS.sc (JS.seq (pc1 := 23) (JS.is2 (pc1 := 21) (JX.il (k := 2) rfl dX7_readPieces_20) (show 5 < 8 by decide) dX7_readPieces_21) (JS.while (l := 126) (lb := 126) (pc1 := 29) (pc2 := 123) (pc3 := 126) (CJ.lt_f (tgt := 126) (pc1 := 25) (pc2 := 26) (JX.il2 dX7_readPieces_23) (JX.il (k := 3) rfl dX7_readPieces_25) dX7_readPieces_26 rfl) (JS.forb (pc1 := 120) (JS.sc (JS.seq (pc1 := 57) (JS.is2 (pc1 := 55) (JX.call (pc1 := 52) decI_ok (JA.r (JX.getR (pc1 := 30) (c := 10) (k := 2) (i := 49) (JX.al (k := 1) rfl dX7_readPieces_29) cl10 (by decide) rfl fk7_49 dX7_readPieces_30) (JA.r (JX.getR (pc1 := 35) (c := 1) (k := 0) (i := 94) (JX.al2 dX7_readPieces_33) cl1 (by decide) rfl fk7_94 dX7_readPieces_35) (JA.i (JX.call (pc1 := 42) decI_ok (JA.r (JX.al2 dX7_readPieces_38) (JA.i (JX.il2 dX7_readPieces_40) JA.nil)) aX1_firstOf (RunK.V (i := 99) (c := 1) (n := 1) cl1 rfl (CN nX1_firstOf (by decide) (by decide)) gw1179 gw949 gw950 dX7_readPieces_42) (by decide)) (JA.i (JX.call (pc1 := 49) decI_ok (JA.r (JX.al2 dX7_readPieces_45) (JA.i (JX.il2 dX7_readPieces_47) JA.nil)) aX1_lengthOf (RunK.V (i := 102) (c := 1) (n := 1) cl1 rfl (CN nX1_lengthOf (by decide) (by decide)) gw1180 gw945 gw946 dX7_readPieces_49) (by decide)) JA.nil)))) aX3_findOrAdd (RunK.V (i := 105) (c := 3) (n := 3) cl3 rfl (CN nX3_findOrAdd (by decide) (by decide)) gw1181 gw1182 gw1183 dX7_readPieces_52) (by decide)) (show 6 < 8 by decide) dX7_readPieces_55) (JS.seq (pc1 := 71) (JS.is2 (pc1 := 69) (JX.call (pc1 := 66) decI_ok (JA.r (JX.getR (pc1 := 61) (c := 3) (k := 3) (i := 111) (JX.getR (pc1 := 58) (c := 10) (k := 2) (i := 49) (JX.al (k := 1) rfl dX7_readPieces_57) cl10 (by decide) rfl fk7_49 dX7_readPieces_58) cl3 (by decide) rfl fk7_111 dX7_readPieces_61) (JA.i (JX.il2 dX7_readPieces_64) JA.nil)) aX5_at (RunK.V (i := 74) (c := 5) (n := 1) cl5 rfl (CN nX5_at (by decide) (by decide)) gw1188 gw595 gw596 dX7_readPieces_66) (by decide)) (show 7 < 8 by decide) dX7_readPieces_69) (JS.seq (pc1 := 80) (JS.call (pc1 := 77) (JA.r (JX.getR (pc1 := 72) (c := 7) (k := 1) (i := 18) (JX.al (k := 0) rfl dX7_readPieces_71) cl7 (by decide) rfl fk7_18 dX7_readPieces_72) (JA.i (JX.il2 dX7_readPieces_75) JA.nil)) aX5_add (RunK.V (i := 71) (c := 5) (n := 1) cl5 rfl (CN nX5_add (by decide) (by decide)) gw1189 gw121 gw122 dX7_readPieces_77)) (JS.call (pc1 := 117) (JA.r (JX.getR (pc1 := 81) (c := 7) (k := 2) (i := 21) (JX.al (k := 0) rfl dX7_readPieces_80) cl7 (by decide) rfl fk7_21 dX7_readPieces_81) (JA.i (JX.ite (l := 116) (pc1 := 112) (pc2 := 113) (pc3 := 117) (lend := 117) (CJ.ne0_f (tgt := 116) (pc1 := 109) (JX.call (pc1 := 106) decI_ok (JA.r (JX.getR (pc1 := 85) (c := 10) (k := 0) (i := 57) (JX.al (k := 1) rfl dX7_readPieces_84) cl10 (by decide) rfl fk7_57 dX7_readPieces_85) (JA.i (JX.getI (pc1 := 92) (c := 9) (k := 10) (i := 118) (JX.getR (pc1 := 89) (c := 10) (k := 10) (i := 114) (JX.al (k := 1) rfl dX7_readPieces_88) cl10 (by decide) rfl fk7_114 dX7_readPieces_89) cl9 (by decide) rfl fk7_118 dX7_readPieces_92) (JA.i (JX.il2 dX7_readPieces_95) (JA.i (JX.call (pc1 := 101) decI_ok (JA.r (JX.al2 dX7_readPieces_97) (JA.i (JX.il2 dX7_readPieces_99) JA.nil)) aX1_lengthOf (RunK.V (i := 102) (c := 1) (n := 1) cl1 rfl (CN nX1_lengthOf (by decide) (by decide)) gw1180 gw945 gw946 dX7_readPieces_101) (by decide)) (JA.i (JX.il2 dX7_readPieces_104) JA.nil))))) aX6_isHook (RunK.V (i := 124) (c := 6) (n := 4) cl6 rfl (CN nX6_isHook (by decide) (by decide)) gw1190 gw1191 gw1192 dX7_readPieces_106) (by decide)) dX7_readPieces_109 rfl) (JX.ic (n := 1) rfl dX7_readPieces_112) dX7_readPieces_113 rfl (JX.ic (n := 0) rfl dX7_readPieces_116) (Or.inl rfl)) JA.nil)) aX5_add (RunK.V (i := 71) (c := 5) (n := 1) cl5 rfl (CN nX5_add (by decide) (by decide)) gw1189 gw121 gw122 dX7_readPieces_117)))))) (JS.inc (n := 1) rfl (show 5 < 8 by decide) dX7_readPieces_120)) dX7_readPieces_123 rfl (Or.inl rfl) (Or.inl rfl)))) (JS.retV dX7_readPieces_126)))))
def mX7_readPieces : MS := runM 8 none bX7_readPieces
theorem aX7_readPieces : MA yX7_readPieces cX7_readPieces 8 none 5 mX7_readPieces := MA.of (plainFor_of_name (by decide)) jX7_readPieces
theorem eX7_readPieces (a0 : Nat) (a1 : Nat) (a2 : Int32) (a3 : Int32) (h : AH) : mX7_readPieces [.ref a0, .ref a1, .int a2, .int a3] h = (bX7_readPieces [.val (.ref a0), .val (.ref a1), .val (.int a2), .val (.int a3), .unset, .unset, .unset, .unset] h).bind (finM none) := rfl
/-! Saver.tellHooks -/
theorem dX7_tellHooks_0 : decode cX7_tellHooks 0 = .ok (.aload_n 1, 1) := by decide +kernel
theorem dX7_tellHooks_1 : decode cX7_tellHooks 1 = .ok (.getfield 49, 3) := by decide +kernel
theorem dX7_tellHooks_4 : decode cX7_tellHooks 4 = .ok (.getfield 130, 3) := by decide +kernel
theorem dX7_tellHooks_7 : decode cX7_tellHooks 7 = .ok (.astore 4, 2) := by decide +kernel
theorem dX7_tellHooks_9 : decode cX7_tellHooks 9 = .ok (.iconst 0, 1) := by decide +kernel
theorem dX7_tellHooks_10 : decode cX7_tellHooks 10 = .ok (.istore 5, 2) := by decide +kernel
theorem dX7_tellHooks_12 : decode cX7_tellHooks 12 = .ok (.iload 5, 2) := by decide +kernel
theorem dX7_tellHooks_14 : decode cX7_tellHooks 14 = .ok (.aload_n 0, 1) := by decide +kernel
theorem dX7_tellHooks_15 : decode cX7_tellHooks 15 = .ok (.getfield 18, 3) := by decide +kernel
theorem dX7_tellHooks_18 : decode cX7_tellHooks 18 = .ok (.invokevirtual 38, 3) := by decide +kernel
theorem dX7_tellHooks_21 : decode cX7_tellHooks 21 = .ok (.if_icmp .ge 98, 3) := by decide +kernel
theorem dX7_tellHooks_24 : decode cX7_tellHooks 24 = .ok (.aload_n 0, 1) := by decide +kernel
theorem dX7_tellHooks_25 : decode cX7_tellHooks 25 = .ok (.getfield 18, 3) := by decide +kernel
theorem dX7_tellHooks_28 : decode cX7_tellHooks 28 = .ok (.iload 5, 2) := by decide +kernel
theorem dX7_tellHooks_30 : decode cX7_tellHooks 30 = .ok (.invokevirtual 74, 3) := by decide +kernel
theorem dX7_tellHooks_33 : decode cX7_tellHooks 33 = .ok (.istore 6, 2) := by decide +kernel
theorem dX7_tellHooks_35 : decode cX7_tellHooks 35 = .ok (.aload_n 0, 1) := by decide +kernel
theorem dX7_tellHooks_36 : decode cX7_tellHooks 36 = .ok (.getfield 21, 3) := by decide +kernel
theorem dX7_tellHooks_39 : decode cX7_tellHooks 39 = .ok (.iload 5, 2) := by decide +kernel
theorem dX7_tellHooks_41 : decode cX7_tellHooks 41 = .ok (.invokevirtual 74, 3) := by decide +kernel
theorem dX7_tellHooks_44 : decode cX7_tellHooks 44 = .ok (.iconst 1, 1) := by decide +kernel
theorem dX7_tellHooks_45 : decode cX7_tellHooks 45 = .ok (.if_icmp .ne 68, 3) := by decide +kernel
theorem dX7_tellHooks_48 : decode cX7_tellHooks 48 = .ok (.aload 4, 2) := by decide +kernel
theorem dX7_tellHooks_50 : decode cX7_tellHooks 50 = .ok (.iload 6, 2) := by decide +kernel
theorem dX7_tellHooks_52 : decode cX7_tellHooks 52 = .ok (.invokevirtual 74, 3) := by decide +kernel
theorem dX7_tellHooks_55 : decode cX7_tellHooks 55 = .ok (.iload_n 2, 1) := by decide +kernel
theorem dX7_tellHooks_56 : decode cX7_tellHooks 56 = .ok (.if_icmp .eq 57, 3) := by decide +kernel
theorem dX7_tellHooks_59 : decode cX7_tellHooks 59 = .ok (.aload_n 1, 1) := by decide +kernel
theorem dX7_tellHooks_60 : decode cX7_tellHooks 60 = .ok (.getfield 114, 3) := by decide +kernel
theorem dX7_tellHooks_63 : decode cX7_tellHooks 63 = .ok (.dup, 1) := by decide +kernel
theorem dX7_tellHooks_64 : decode cX7_tellHooks 64 = .ok (.getfield 149, 3) := by decide +kernel
theorem dX7_tellHooks_67 : decode cX7_tellHooks 67 = .ok (.aload 4, 2) := by decide +kernel
theorem dX7_tellHooks_69 : decode cX7_tellHooks 69 = .ok (.iload 6, 2) := by decide +kernel
theorem dX7_tellHooks_71 : decode cX7_tellHooks 71 = .ok (.invokevirtual 74, 3) := by decide +kernel
theorem dX7_tellHooks_74 : decode cX7_tellHooks 74 = .ok (.iconst (-1), 1) := by decide +kernel
theorem dX7_tellHooks_75 : decode cX7_tellHooks 75 = .ok (.if_icmp .ne 7, 3) := by decide +kernel
theorem dX7_tellHooks_78 : decode cX7_tellHooks 78 = .ok (.iconst 1, 1) := by decide +kernel
theorem dX7_tellHooks_79 : decode cX7_tellHooks 79 = .ok (.goto 4, 3) := by decide +kernel
theorem dX7_tellHooks_82 : decode cX7_tellHooks 82 = .ok (.iconst 0, 1) := by decide +kernel
theorem dX7_tellHooks_83 : decode cX7_tellHooks 83 = .ok (.iadd, 1) := by decide +kernel
theorem dX7_tellHooks_84 : decode cX7_tellHooks 84 = .ok (.putfield 149, 3) := by decide +kernel
theorem dX7_tellHooks_87 : decode cX7_tellHooks 87 = .ok (.aload_n 0, 1) := by decide +kernel
theorem dX7_tellHooks_88 : decode cX7_tellHooks 88 = .ok (.getfield 12, 3) := by decide +kernel
theorem dX7_tellHooks_91 : decode cX7_tellHooks 91 = .ok (.iload_n 3, 1) := by decide +kernel
theorem dX7_tellHooks_92 : decode cX7_tellHooks 92 = .ok (.iload 5, 2) := by decide +kernel
theorem dX7_tellHooks_94 : decode cX7_tellHooks 94 = .ok (.iadd, 1) := by decide +kernel
theorem dX7_tellHooks_95 : decode cX7_tellHooks 95 = .ok (.aload 4, 2) := by decide +kernel
theorem dX7_tellHooks_97 : decode cX7_tellHooks 97 = .ok (.iload 6, 2) := by decide +kernel
theorem dX7_tellHooks_99 : decode cX7_tellHooks 99 = .ok (.invokevirtual 74, 3) := by decide +kernel
theorem dX7_tellHooks_102 : decode cX7_tellHooks 102 = .ok (.invokevirtual 152, 3) := by decide +kernel
theorem dX7_tellHooks_105 : decode cX7_tellHooks 105 = .ok (.aload 4, 2) := by decide +kernel
theorem dX7_tellHooks_107 : decode cX7_tellHooks 107 = .ok (.iload 6, 2) := by decide +kernel
theorem dX7_tellHooks_109 : decode cX7_tellHooks 109 = .ok (.iload_n 2, 1) := by decide +kernel
theorem dX7_tellHooks_110 : decode cX7_tellHooks 110 = .ok (.invokevirtual 152, 3) := by decide +kernel
theorem dX7_tellHooks_113 : decode cX7_tellHooks 113 = .ok (.iinc 5 1, 3) := by decide +kernel
theorem dX7_tellHooks_116 : decode cX7_tellHooks 116 = .ok (.goto (-104), 3) := by decide +kernel
theorem dX7_tellHooks_119 : decode cX7_tellHooks 119 = .ok (.return_, 1) := by decide +kernel
abbrev MX7_tellHooks : MI := (RX7, cX7_tellHooks, 7, 2, false)
def lcX7_tellHooks_1 : Ex Bool := (ltI (lvI 5) (calX decI (ckV 5 0) mX5_size (agC va_rf (getR 7 1 (lvR 0)) agN)))
def lbX7_tellHooks_1 : St := (forB (scS 6 (seqS (lsI 6 (calX decI (ckV 5 1) mX5_at (agC va_rf (getR 7 1 (lvR 0)) (agC Value.int (lvI 5) agN)))) (ifS (andX (eqI (calX decI (ckV 5 1) mX5_at (agC va_rf (getR 7 2 (lvR 0)) (agC Value.int (lvI 5) agN))) (ciI (iI 1))) (neI (calX decI (ckV 5 1) mX5_at (agC va_rf (lvR 4) (agC Value.int (lvI 6) agN))) (lvI 2))) (seqS (updI 9 11 (fun x y => x + y) (getR 10 10 (lvR 1)) (iteX (eqI (calX decI (ckV 5 1) mX5_at (agC va_rf (lvR 4) (agC Value.int (lvI 6) agN))) (ciI (iI (-1)))) (ciI (iI 1)) (ciI (iI 0)))) (seqS (calS (ckV 5 2) mX5_put (agC va_rf (getR 7 0 (lvR 0)) (agC Value.int (addI (lvI 3) (lvI 5)) (agC Value.int (calX decI (ckV 5 1) mX5_at (agC va_rf (lvR 4) (agC Value.int (lvI 6) agN))) agN)))) (calS (ckV 5 2) mX5_put (agC va_rf (lvR 4) (agC Value.int (lvI 6) (agC Value.int (lvI 2) agN))))))))) (incI 5 (iI 1)))
def bX7_tellHooks : St := (seqS (lsR 4 (getR 3 6 (getR 10 2 (lvR 1)))) (seqS (scS 5 (seqS (lsI 5 (ciI (iI 0))) (whileS lcX7_tellHooks_1 lbX7_tellHooks_1))) retV))
theorem jX7_tellHooks : JS MX7_tellHooks 0 0 0 120 [] bX7_tellHooks :=
  (JS.seq (pc1 := 9) (JS.as2 (pc1 := 7) (JX.getR (pc1 := 4) (c := 3) (k := 6) (i := 130) (JX.getR (pc1 := 1) (c := 10) (k := 2) (i := 49) (JX.al (k := 1) rfl dX7_tellHooks_0) cl10 (by decide) rfl fk7_49 dX7_tellHooks_1) cl3 (by decide) rfl fk7_130 dX7_tellHooks_4) (show 4 < 7 by decide) dX7_tellHooks_7) (JS.seq (pc1 := 119) (JS.sc (JS.seq (pc1 := 12) (JS.is2 (pc1 := 10) (JX.ic (n := 0) rfl dX7_tellHooks_9) (show 5 < 7 by decide) dX7_tellHooks_10) (JS.while (l := 119) (lb := 119) (pc1 := 24) (pc2 := 116) (pc3 := 119) (CJ.lt_f (tgt := 119) (pc1 := 14) (pc2 := 21) (JX.il2 dX7_tellHooks_12) (JX.call (pc1 := 18) decI_ok (JA.r (JX.getR (pc1 := 15) (c := 7) (k := 1) (i := 18) (JX.al (k := 0) rfl dX7_tellHooks_14) cl7 (by decide) rfl fk7_18 dX7_tellHooks_15) JA.nil) aX5_size (RunK.V (i := 38) (c := 5) (n := 0) cl5 rfl (CN nX5_size (by decide) (by decide)) gw1173 gw587 gw588 dX7_tellHooks_18) (by decide)) dX7_tellHooks_21 rfl) (JS.forb (pc1 := 113) (JS.sc (JS.seq (pc1 := 35) (JS.is2 (pc1 := 33) (JX.call (pc1 := 30) decI_ok (JA.r (JX.getR (pc1 := 25) (c := 7) (k := 1) (i := 18) (JX.al (k := 0) rfl dX7_tellHooks_24) cl7 (by decide) rfl fk7_18 dX7_tellHooks_25) (JA.i (JX.il2 dX7_tellHooks_28) JA.nil)) aX5_at (RunK.V (i := 74) (c := 5) (n := 1) cl5 rfl (CN nX5_at (by decide) (by decide)) gw1188 gw595 gw596 dX7_tellHooks_30) (by decide)) (show 6 < 7 by decide) dX7_tellHooks_33) (JS.iff (l := 113) (pc1 := 59) (CJ.and_f (pc1 := 48) (CJ.eq_f (tgt := 113) (pc1 := 44) (pc2 := 45) (JX.call (pc1 := 41) decI_ok (JA.r (JX.getR (pc1 := 36) (c := 7) (k := 2) (i := 21) (JX.al (k := 0) rfl dX7_tellHooks_35) cl7 (by decide) rfl fk7_21 dX7_tellHooks_36) (JA.i (JX.il2 dX7_tellHooks_39) JA.nil)) aX5_at (RunK.V (i := 74) (c := 5) (n := 1) cl5 rfl (CN nX5_at (by decide) (by decide)) gw1188 gw595 gw596 dX7_tellHooks_41) (by decide)) (JX.ic (n := 1) rfl dX7_tellHooks_44) dX7_tellHooks_45 rfl) (CJ.ne_f (tgt := 113) (pc1 := 55) (pc2 := 56) (JX.call (pc1 := 52) decI_ok (JA.r (JX.al2 dX7_tellHooks_48) (JA.i (JX.il2 dX7_tellHooks_50) JA.nil)) aX5_at (RunK.V (i := 74) (c := 5) (n := 1) cl5 rfl (CN nX5_at (by decide) (by decide)) gw1188 gw595 gw596 dX7_tellHooks_52) (by decide)) (JX.il (k := 2) rfl dX7_tellHooks_55) dX7_tellHooks_56 rfl)) (JS.seq (pc1 := 87) (JS.upA (pc1 := 63) (pc2 := 83) (c := 9) (k := 11) (i := 149) (JX.getR (pc1 := 60) (c := 10) (k := 10) (i := 114) (JX.al (k := 1) rfl dX7_tellHooks_59) cl10 (by decide) rfl fk7_114 dX7_tellHooks_60) dX7_tellHooks_63 cl9 (by decide) rfl fk7_149 (Or.inl rfl) dX7_tellHooks_64 (JX.ite (l := 82) (pc1 := 78) (pc2 := 79) (pc3 := 83) (lend := 83) (CJ.eq_f (tgt := 82) (pc1 := 74) (pc2 := 75) (JX.call (pc1 := 71) decI_ok (JA.r (JX.al2 dX7_tellHooks_67) (JA.i (JX.il2 dX7_tellHooks_69) JA.nil)) aX5_at (RunK.V (i := 74) (c := 5) (n := 1) cl5 rfl (CN nX5_at (by decide) (by decide)) gw1188 gw595 gw596 dX7_tellHooks_71) (by decide)) (JX.ic (n := (-1)) rfl dX7_tellHooks_74) dX7_tellHooks_75 rfl) (JX.ic (n := 1) rfl dX7_tellHooks_78) dX7_tellHooks_79 rfl (JX.ic (n := 0) rfl dX7_tellHooks_82) (Or.inl rfl)) dX7_tellHooks_83 dX7_tellHooks_84) (JS.seq (pc1 := 105) (JS.call (pc1 := 102) (JA.r (JX.getR (pc1 := 88) (c := 7) (k := 0) (i := 12) (JX.al (k := 0) rfl dX7_tellHooks_87) cl7 (by decide) rfl fk7_12 dX7_tellHooks_88) (JA.i (JX.iadd (pc1 := 92) (pc2 := 94) (JX.il (k := 3) rfl dX7_tellHooks_91) (JX.il2 dX7_tellHooks_92) dX7_tellHooks_94) (JA.i (JX.call (pc1 := 99) decI_ok (JA.r (JX.al2 dX7_tellHooks_95) (JA.i (JX.il2 dX7_tellHooks_97) JA.nil)) aX5_at (RunK.V (i := 74) (c := 5) (n := 1) cl5 rfl (CN nX5_at (by decide) (by decide)) gw1188 gw595 gw596 dX7_tellHooks_99) (by decide)) JA.nil))) aX5_put (RunK.V (i := 152) (c := 5) (n := 2) cl5 rfl (CN nX5_put (by decide) (by decide)) gw1227 gw599 gw600 dX7_tellHooks_102)) (JS.call (pc1 := 110) (JA.r (JX.al2 dX7_tellHooks_105) (JA.i (JX.il2 dX7_tellHooks_107) (JA.i (JX.il (k := 2) rfl dX7_tellHooks_109) JA.nil))) aX5_put (RunK.V (i := 152) (c := 5) (n := 2) cl5 rfl (CN nX5_put (by decide) (by decide)) gw1227 gw599 gw600 dX7_tellHooks_110)))) (Or.inl rfl)))) (JS.inc (n := 1) rfl (show 5 < 7 by decide) dX7_tellHooks_113)) dX7_tellHooks_116 rfl (Or.inl rfl) (Or.inl rfl)))) (JS.retV dX7_tellHooks_119)))
def mX7_tellHooks : MS := runM 7 none bX7_tellHooks
theorem aX7_tellHooks : MA yX7_tellHooks cX7_tellHooks 7 none 2 mX7_tellHooks := MA.of (plainFor_of_name (by decide)) jX7_tellHooks
theorem eX7_tellHooks (a0 : Nat) (a1 : Nat) (a2 : Int32) (a3 : Int32) (h : AH) : mX7_tellHooks [.ref a0, .ref a1, .int a2, .int a3] h = (bX7_tellHooks [.val (.ref a0), .val (.ref a1), .val (.int a2), .val (.int a3), .unset, .unset, .unset] h).bind (finM none) := rfl
/-! Vault.writePiece -/
theorem dX10_writePiece_0 : decode cX10_writePiece 0 = .ok (.aload_n 0, 1) := by decide +kernel
theorem dX10_writePiece_1 : decode cX10_writePiece 1 = .ok (.getfield 42, 3) := by decide +kernel
theorem dX10_writePiece_4 : decode cX10_writePiece 4 = .ok (.invokevirtual 157, 3) := by decide +kernel
theorem dX10_writePiece_7 : decode cX10_writePiece 7 = .ok (.istore_n 2, 1) := by decide +kernel
theorem dX10_writePiece_8 : decode cX10_writePiece 8 = .ok (.aload_n 0, 1) := by decide +kernel
theorem dX10_writePiece_9 : decode cX10_writePiece 9 = .ok (.getfield 42, 3) := by decide +kernel
theorem dX10_writePiece_12 : decode cX10_writePiece 12 = .ok (.iload_n 1, 1) := by decide +kernel
theorem dX10_writePiece_13 : decode cX10_writePiece 13 = .ok (.invokevirtual 269, 3) := by decide +kernel
theorem dX10_writePiece_16 : decode cX10_writePiece 16 = .ok (.aload_n 0, 1) := by decide +kernel
theorem dX10_writePiece_17 : decode cX10_writePiece 17 = .ok (.getfield 46, 3) := by decide +kernel
theorem dX10_writePiece_20 : decode cX10_writePiece 20 = .ok (.aload_n 0, 1) := by decide +kernel
theorem dX10_writePiece_21 : decode cX10_writePiece 21 = .ok (.getfield 64, 3) := by decide +kernel
theorem dX10_writePiece_24 : decode cX10_writePiece 24 = .ok (.getfield 121, 3) := by decide +kernel
theorem dX10_writePiece_27 : decode cX10_writePiece 27 = .ok (.invokevirtual 157, 3) := by decide +kernel
theorem dX10_writePiece_30 : decode cX10_writePiece 30 = .ok (.invokevirtual 269, 3) := by decide +kernel
theorem dX10_writePiece_33 : decode cX10_writePiece 33 = .ok (.aload_n 0, 1) := by decide +kernel
theorem dX10_writePiece_34 : decode cX10_writePiece 34 = .ok (.getfield 64, 3) := by decide +kernel
theorem dX10_writePiece_37 : decode cX10_writePiece 37 = .ok (.iload_n 2, 1) := by decide +kernel
theorem dX10_writePiece_38 : decode cX10_writePiece 38 = .ok (.aload_n 0, 1) := by decide +kernel
theorem dX10_writePiece_39 : decode cX10_writePiece 39 = .ok (.getfield 28, 3) := by decide +kernel
theorem dX10_writePiece_42 : decode cX10_writePiece 42 = .ok (.getfield 124, 3) := by decide +kernel
theorem dX10_writePiece_45 : decode cX10_writePiece 45 = .ok (.iload_n 1, 1) := by decide +kernel
theorem dX10_writePiece_46 : decode cX10_writePiece 46 = .ok (.invokevirtual 114, 3) := by decide +kernel
theorem dX10_writePiece_49 : decode cX10_writePiece 49 = .ok (.iconst 0, 1) := by decide +kernel
theorem dX10_writePiece_50 : decode cX10_writePiece 50 = .ok (.aload_n 0, 1) := by decide +kernel
theorem dX10_writePiece_51 : decode cX10_writePiece 51 = .ok (.getfield 12, 3) := by decide +kernel
theorem dX10_writePiece_54 : decode cX10_writePiece 54 = .ok (.iconst 0, 1) := by decide +kernel
theorem dX10_writePiece_55 : decode cX10_writePiece 55 = .ok (.invokevirtual 147, 3) := by decide +kernel
theorem dX10_writePiece_58 : decode cX10_writePiece 58 = .ok (.invokevirtual 272, 3) := by decide +kernel
theorem dX10_writePiece_61 : decode cX10_writePiece 61 = .ok (.iload_n 2, 1) := by decide +kernel
theorem dX10_writePiece_62 : decode cX10_writePiece 62 = .ok (.ireturn, 1) := by decide +kernel
abbrev MX10_writePiece : MI := (RX10, cX10_writePiece, 3, 5, false)
def bX10_writePiece : St := (seqS (lsI 2 (calX decI (ckV 5 0) mX5_size (agC va_rf (getR 10 4 (lvR 0)) agN))) (seqS (calS (ckV 5 1) mX5_add (agC va_rf (getR 10 4 (lvR 0)) (agC Value.int (lvI 1) agN))) (seqS (calS (ckV 5 1) mX5_add (agC va_rf (getR 10 5 (lvR 0)) (agC Value.int (calX decI (ckV 5 0) mX5_size (agC va_rf (getR 9 0 (getR 10 10 (lvR 0))) agN)) agN))) (seqS (calS (ckV 9 4) mX9_write (agC va_rf (getR 10 10 (lvR 0)) (agC Value.int (lvI 2) (agC Value.int (calX decI (ckV 5 1) mX5_at (agC va_rf (getR 3 2 (getR 10 2 (lvR 0))) (agC Value.int (lvI 1) agN))) (agC Value.int (ciI (iI 0)) (agC Value.int (calX decI (ckV 6 1) mX6_number (agC va_rf (getR 10 0 (lvR 0)) (agC Value.int (ciI (iI 0)) agN))) agN)))))) (retI (lvI 2))))))
theorem jX10_writePiece : JS MX10_writePiece 0 0 0 63 [] bX10_writePiece :=
  (JS.seq (pc1 := 8) (JS.is (pc1 := 7) (k := 2) (JX.call (pc1 := 4) decI_ok (JA.r (JX.getR (pc1 := 1) (c := 10) (k := 4) (i := 42) (JX.al (k := 0) rfl dX10_writePiece_0) cl10 (by decide) rfl fk10_42 dX10_writePiece_1) JA.nil) aX5_size (RunK.V (i := 157) (c := 5) (n := 0) cl5 rfl (CN nX5_size (by decide) (by decide)) gw788 gw587 gw588 dX10_writePiece_4) (by decide)) rfl (show 2 < 3 by decide) dX10_writePiece_7) (JS.seq (pc1 := 16) (JS.call (pc1 := 13) (JA.r (JX.getR (pc1 := 9) (c := 10) (k := 4) (i := 42) (JX.al (k := 0) rfl dX10_writePiece_8) cl10 (by decide) rfl fk10_42 dX10_writePiece_9) (JA.i (JX.il (k := 1) rfl dX10_writePiece_12) JA.nil)) aX5_add (RunK.V (i := 269) (c := 5) (n := 1) cl5 rfl (CN nX5_add (by decide) (by decide)) gw1057 gw121 gw122 dX10_writePiece_13)) (JS.seq (pc1 := 33) (JS.call (pc1 := 30) (JA.r (JX.getR (pc1 := 17) (c := 10) (k := 5) (i := 46) (JX.al (k := 0) rfl dX10_writePiece_16) cl10 (by decide) rfl fk10_46 dX10_writePiece_17) (JA.i (JX.call (pc1 := 27) decI_ok (JA.r (JX.getR (pc1 := 24) (c := 9) (k := 0) (i := 121) (JX.getR (pc1 := 21) (c := 10) (k := 10) (i := 64) (JX.al (k := 0) rfl dX10_writePiece_20) cl10 (by decide) rfl fk10_64 dX10_writePiece_21) cl9 (by decide) rfl fk10_121 dX10_writePiece_24) JA.nil) aX5_size (RunK.V (i := 157) (c := 5) (n := 0) cl5 rfl (CN nX5_size (by decide) (by decide)) gw788 gw587 gw588 dX10_writePiece_27) (by decide)) JA.nil)) aX5_add (RunK.V (i := 269) (c := 5) (n := 1) cl5 rfl (CN nX5_add (by decide) (by decide)) gw1057 gw121 gw122 dX10_writePiece_30)) (JS.seq (pc1 := 61) (JS.call (pc1 := 58) (JA.r (JX.getR (pc1 := 34) (c := 10) (k := 10) (i := 64) (JX.al (k := 0) rfl dX10_writePiece_33) cl10 (by decide) rfl fk10_64 dX10_writePiece_34) (JA.i (JX.il (k := 2) rfl dX10_writePiece_37) (JA.i (JX.call (pc1 := 46) decI_ok (JA.r (JX.getR (pc1 := 42) (c := 3) (k := 2) (i := 124) (JX.getR (pc1 := 39) (c := 10) (k := 2) (i := 28) (JX.al (k := 0) rfl dX10_writePiece_38) cl10 (by decide) rfl fk10_28 dX10_writePiece_39) cl3 (by decide) rfl fk10_124 dX10_writePiece_42) (JA.i (JX.il (k := 1) rfl dX10_writePiece_45) JA.nil)) aX5_at (RunK.V (i := 114) (c := 5) (n := 1) cl5 rfl (CN nX5_at (by decide) (by decide)) gw774 gw595 gw596 dX10_writePiece_46) (by decide)) (JA.i (JX.ic (n := 0) rfl dX10_writePiece_49) (JA.i (JX.call (pc1 := 55) decI_ok (JA.r (JX.getR (pc1 := 51) (c := 10) (k := 0) (i := 12) (JX.al (k := 0) rfl dX10_writePiece_50) cl10 (by decide) rfl fk10_12 dX10_writePiece_51) (JA.i (JX.ic (n := 0) rfl dX10_writePiece_54) JA.nil)) aX6_number (RunK.V (i := 147) (c := 6) (n := 1) cl6 rfl (CN nX6_number (by decide) (by decide)) gw779 gw762 gw763 dX10_writePiece_55) (by decide)) JA.nil))))) aX9_write (RunK.V (i := 272) (c := 9) (n := 4) cl9 rfl (CN nX9_write (by decide) (by decide)) gw1076 gw1077 gw1078 dX10_writePiece_58)) (JS.retI (pc1 := 62) (JX.il (k := 2) rfl dX10_writePiece_61) dX10_writePiece_62)))))
def mX10_writePiece : MS := runM 3 (some (.int)) bX10_writePiece
theorem aX10_writePiece : MA yX10_writePiece cX10_writePiece 3 (some (.int)) 5 mX10_writePiece := MA.of (plainFor_of_name (by decide)) jX10_writePiece
theorem eX10_writePiece (a0 : Nat) (a1 : Int32) (h : AH) : mX10_writePiece [.ref a0, .int a1] h = (bX10_writePiece [.val (.ref a0), .val (.int a1), .unset] h).bind (finM (some (.int))) := rfl
/-! Saver.saveSegment -/
theorem dX7_saveSegment_0 : decode cX7_saveSegment 0 = .ok (.aload_n 1, 1) := by decide +kernel
theorem dX7_saveSegment_1 : decode cX7_saveSegment 1 = .ok (.getfield 33, 3) := by decide +kernel
theorem dX7_saveSegment_4 : decode cX7_saveSegment 4 = .ok (.invokevirtual 38, 3) := by decide +kernel
theorem dX7_saveSegment_7 : decode cX7_saveSegment 7 = .ok (.istore 4, 2) := by decide +kernel
theorem dX7_saveSegment_9 : decode cX7_saveSegment 9 = .ok (.aload_n 1, 1) := by decide +kernel
theorem dX7_saveSegment_10 : decode cX7_saveSegment 10 = .ok (.getfield 42, 3) := by decide +kernel
theorem dX7_saveSegment_13 : decode cX7_saveSegment 13 = .ok (.invokevirtual 38, 3) := by decide +kernel
theorem dX7_saveSegment_16 : decode cX7_saveSegment 16 = .ok (.istore 5, 2) := by decide +kernel
theorem dX7_saveSegment_18 : decode cX7_saveSegment 18 = .ok (.aload_n 0, 1) := by decide +kernel
theorem dX7_saveSegment_19 : decode cX7_saveSegment 19 = .ok (.aload_n 1, 1) := by decide +kernel
theorem dX7_saveSegment_20 : decode cX7_saveSegment 20 = .ok (.iload_n 2, 1) := by decide +kernel
theorem dX7_saveSegment_21 : decode cX7_saveSegment 21 = .ok (.iload_n 3, 1) := by decide +kernel
theorem dX7_saveSegment_22 : decode cX7_saveSegment 22 = .ok (.invokevirtual 45, 3) := by decide +kernel
theorem dX7_saveSegment_25 : decode cX7_saveSegment 25 = .ok (.aload_n 0, 1) := by decide +kernel
theorem dX7_saveSegment_26 : decode cX7_saveSegment 26 = .ok (.aload_n 1, 1) := by decide +kernel
theorem dX7_saveSegment_27 : decode cX7_saveSegment 27 = .ok (.getfield 49, 3) := by decide +kernel
theorem dX7_saveSegment_30 : decode cX7_saveSegment 30 = .ok (.invokevirtual 53, 3) := by decide +kernel
theorem dX7_saveSegment_33 : decode cX7_saveSegment 33 = .ok (.aload_n 0, 1) := by decide +kernel
theorem dX7_saveSegment_34 : decode cX7_saveSegment 34 = .ok (.aload_n 1, 1) := by decide +kernel
theorem dX7_saveSegment_35 : decode cX7_saveSegment 35 = .ok (.getfield 57, 3) := by decide +kernel
theorem dX7_saveSegment_38 : decode cX7_saveSegment 38 = .ok (.bipush 6, 2) := by decide +kernel
theorem dX7_saveSegment_40 : decode cX7_saveSegment 40 = .ok (.invokevirtual 61, 3) := by decide +kernel
theorem dX7_saveSegment_43 : decode cX7_saveSegment 43 = .ok (.invokevirtual 67, 3) := by decide +kernel
theorem dX7_saveSegment_46 : decode cX7_saveSegment 46 = .ok (.aload_n 1, 1) := by decide +kernel
theorem dX7_saveSegment_47 : decode cX7_saveSegment 47 = .ok (.getfield 33, 3) := by decide +kernel
theorem dX7_saveSegment_50 : decode cX7_saveSegment 50 = .ok (.iload 5, 2) := by decide +kernel
theorem dX7_saveSegment_52 : decode cX7_saveSegment 52 = .ok (.invokevirtual 71, 3) := by decide +kernel
theorem dX7_saveSegment_55 : decode cX7_saveSegment 55 = .ok (.iconst 0, 1) := by decide +kernel
theorem dX7_saveSegment_56 : decode cX7_saveSegment 56 = .ok (.istore 6, 2) := by decide +kernel
theorem dX7_saveSegment_58 : decode cX7_saveSegment 58 = .ok (.iload 6, 2) := by decide +kernel
theorem dX7_saveSegment_60 : decode cX7_saveSegment 60 = .ok (.aload_n 0, 1) := by decide +kernel
theorem dX7_saveSegment_61 : decode cX7_saveSegment 61 = .ok (.getfield 18, 3) := by decide +kernel
theorem dX7_saveSegment_64 : decode cX7_saveSegment 64 = .ok (.invokevirtual 38, 3) := by decide +kernel
theorem dX7_saveSegment_67 : decode cX7_saveSegment 67 = .ok (.if_icmp .ge 67, 3) := by decide +kernel
theorem dX7_saveSegment_70 : decode cX7_saveSegment 70 = .ok (.aload_n 0, 1) := by decide +kernel
theorem dX7_saveSegment_71 : decode cX7_saveSegment 71 = .ok (.aload_n 1, 1) := by decide +kernel
theorem dX7_saveSegment_72 : decode cX7_saveSegment 72 = .ok (.aload_n 0, 1) := by decide +kernel
theorem dX7_saveSegment_73 : decode cX7_saveSegment 73 = .ok (.getfield 18, 3) := by decide +kernel
theorem dX7_saveSegment_76 : decode cX7_saveSegment 76 = .ok (.iload 6, 2) := by decide +kernel
theorem dX7_saveSegment_78 : decode cX7_saveSegment 78 = .ok (.invokevirtual 74, 3) := by decide +kernel
theorem dX7_saveSegment_81 : decode cX7_saveSegment 81 = .ok (.iload 5, 2) := by decide +kernel
theorem dX7_saveSegment_83 : decode cX7_saveSegment 83 = .ok (.invokevirtual 77, 3) := by decide +kernel
theorem dX7_saveSegment_86 : decode cX7_saveSegment 86 = .ok (.istore 7, 2) := by decide +kernel
theorem dX7_saveSegment_88 : decode cX7_saveSegment 88 = .ok (.aload_n 1, 1) := by decide +kernel
theorem dX7_saveSegment_89 : decode cX7_saveSegment 89 = .ok (.getfield 42, 3) := by decide +kernel
theorem dX7_saveSegment_92 : decode cX7_saveSegment 92 = .ok (.iload 7, 2) := by decide +kernel
theorem dX7_saveSegment_94 : decode cX7_saveSegment 94 = .ok (.iconst (-1), 1) := by decide +kernel
theorem dX7_saveSegment_95 : decode cX7_saveSegment 95 = .ok (.if_icmp .eq 8, 3) := by decide +kernel
theorem dX7_saveSegment_98 : decode cX7_saveSegment 98 = .ok (.iload 7, 2) := by decide +kernel
theorem dX7_saveSegment_100 : decode cX7_saveSegment 100 = .ok (.goto 16, 3) := by decide +kernel
theorem dX7_saveSegment_103 : decode cX7_saveSegment 103 = .ok (.aload_n 1, 1) := by decide +kernel
theorem dX7_saveSegment_104 : decode cX7_saveSegment 104 = .ok (.aload_n 0, 1) := by decide +kernel
theorem dX7_saveSegment_105 : decode cX7_saveSegment 105 = .ok (.getfield 18, 3) := by decide +kernel
theorem dX7_saveSegment_108 : decode cX7_saveSegment 108 = .ok (.iload 6, 2) := by decide +kernel
theorem dX7_saveSegment_110 : decode cX7_saveSegment 110 = .ok (.invokevirtual 74, 3) := by decide +kernel
theorem dX7_saveSegment_113 : decode cX7_saveSegment 113 = .ok (.invokevirtual 81, 3) := by decide +kernel
theorem dX7_saveSegment_116 : decode cX7_saveSegment 116 = .ok (.invokevirtual 71, 3) := by decide +kernel
theorem dX7_saveSegment_119 : decode cX7_saveSegment 119 = .ok (.aload_n 0, 1) := by decide +kernel
theorem dX7_saveSegment_120 : decode cX7_saveSegment 120 = .ok (.getfield 12, 3) := by decide +kernel
theorem dX7_saveSegment_123 : decode cX7_saveSegment 123 = .ok (.bipush (-2), 2) := by decide +kernel
theorem dX7_saveSegment_125 : decode cX7_saveSegment 125 = .ok (.invokevirtual 71, 3) := by decide +kernel
theorem dX7_saveSegment_128 : decode cX7_saveSegment 128 = .ok (.iinc 6 1, 3) := by decide +kernel
theorem dX7_saveSegment_131 : decode cX7_saveSegment 131 = .ok (.goto (-73), 3) := by decide +kernel
theorem dX7_saveSegment_134 : decode cX7_saveSegment 134 = .ok (.aload_n 0, 1) := by decide +kernel
theorem dX7_saveSegment_135 : decode cX7_saveSegment 135 = .ok (.aload_n 1, 1) := by decide +kernel
theorem dX7_saveSegment_136 : decode cX7_saveSegment 136 = .ok (.iload 4, 2) := by decide +kernel
theorem dX7_saveSegment_138 : decode cX7_saveSegment 138 = .ok (.iload 5, 2) := by decide +kernel
theorem dX7_saveSegment_140 : decode cX7_saveSegment 140 = .ok (.invokevirtual 84, 3) := by decide +kernel
theorem dX7_saveSegment_143 : decode cX7_saveSegment 143 = .ok (.return_, 1) := by decide +kernel
abbrev MX7_saveSegment : MI := (RX7, cX7_saveSegment, 8, 6, false)
def lcX7_saveSegment_1 : Ex Bool := (ltI (lvI 6) (calX decI (ckV 5 0) mX5_size (agC va_rf (getR 7 1 (lvR 0)) agN)))
def lbX7_saveSegment_1 : St := (forB (scS 7 (seqS (lsI 7 (calX decI (ckV 7 3) mX7_pieceHad (agC va_rf (lvR 0) (agC va_rf (lvR 1) (agC Value.int (calX decI (ckV 5 1) mX5_at (agC va_rf (getR 7 1 (lvR 0)) (agC Value.int (lvI 6) agN))) (agC Value.int (lvI 5) agN)))))) (seqS (calS (ckV 5 1) mX5_add (agC va_rf (getR 10 6 (lvR 1)) (agC Value.int (iteX (neI (lvI 7) (ciI (iI (-1)))) (lvI 7) (calX decI (ckV 10 1) mX10_writePiece (agC va_rf (lvR 1) (agC Value.int (calX decI (ckV 5 1) mX5_at (agC va_rf (getR 7 1 (lvR 0)) (agC Value.int (lvI 6) agN))) agN)))) agN))) (calS (ckV 5 1) mX5_add (agC va_rf (getR 7 0 (lvR 0)) (agC Value.int (ciI (iI (-2))) agN)))))) (incI 6 (iI 1)))
def bX7_saveSegment : St := (seqS (lsI 4 (calX decI (ckV 5 0) mX5_size (agC va_rf (getR 10 7 (lvR 1)) agN))) (seqS (lsI 5 (calX decI (ckV 5 0) mX5_size (agC va_rf (getR 10 6 (lvR 1)) agN))) (seqS (calS (ckV 7 3) mX7_readPieces (agC va_rf (lvR 0) (agC va_rf (lvR 1) (agC Value.int (lvI 2) (agC Value.int (lvI 3) agN))))) (seqS (calS (ckV 7 1) mX7_readHooks (agC va_rf (lvR 0) (agC va_rf (getR 10 2 (lvR 1)) agN))) (seqS (calS (ckV 7 1) mX7_findChampions (agC va_rf (lvR 0) (agC Value.int (calX decI (ckV 6 1) mX6_number (agC va_rf (getR 10 0 (lvR 1)) (agC Value.int (ciI (iI 6)) agN))) agN))) (seqS (calS (ckV 5 1) mX5_add (agC va_rf (getR 10 7 (lvR 1)) (agC Value.int (lvI 5) agN))) (seqS (scS 6 (seqS (lsI 6 (ciI (iI 0))) (whileS lcX7_saveSegment_1 lbX7_saveSegment_1))) (seqS (calS (ckV 7 3) mX7_tellHooks (agC va_rf (lvR 0) (agC va_rf (lvR 1) (agC Value.int (lvI 4) (agC Value.int (lvI 5) agN))))) retV))))))))
theorem jX7_saveSegment : JS MX7_saveSegment 0 0 0 144 [] bX7_saveSegment :=
  (JS.seq (pc1 := 9) (JS.is2 (pc1 := 7) (JX.call (pc1 := 4) decI_ok (JA.r (JX.getR (pc1 := 1) (c := 10) (k := 7) (i := 33) (JX.al (k := 1) rfl dX7_saveSegment_0) cl10 (by decide) rfl fk7_33 dX7_saveSegment_1) JA.nil) aX5_size (RunK.V (i := 38) (c := 5) (n := 0) cl5 rfl (CN nX5_size (by decide) (by decide)) gw1173 gw587 gw588 dX7_saveSegment_4) (by decide)) (show 4 < 8 by decide) dX7_saveSegment_7) (JS.seq (pc1 := 18) (JS.is2 (pc1 := 16) (JX.call (pc1 := 13) decI_ok (JA.r (JX.getR (pc1 := 10) (c := 10) (k := 6) (i := 42) (JX.al (k := 1) rfl dX7_saveSegment_9) cl10 (by decide) rfl fk7_42 dX7_saveSegment_10) JA.nil) aX5_size (RunK.V (i := 38) (c := 5) (n := 0) cl5 rfl (CN nX5_size (by decide) (by decide)) gw1173 gw587 gw588 dX7_saveSegment_13) (by decide)) (show 5 < 8 by decide) dX7_saveSegment_16) (JS.seq (pc1 := 25) (JS.call (pc1 := 22) (JA.r (JX.al (k := 0) rfl dX7_saveSegment_18) (JA.r (JX.al (k := 1) rfl dX7_saveSegment_19) (JA.i (JX.il (k := 2) rfl dX7_saveSegment_20) (JA.i (JX.il (k := 3) rfl dX7_saveSegment_21) JA.nil)))) aX7_readPieces (RunK.V (i := 45) (c := 7) (n := 3) cl7 rfl (CN nX7_readPieces (by decide) (by decide)) gw1174 gw1176 gs45 dX7_saveSegment_22)) (JS.seq (pc1 := 33) (JS.call (pc1 := 30) (JA.r (JX.al (k := 0) rfl dX7_saveSegment_25) (JA.r (JX.getR (pc1 := 27) (c := 10) (k := 2) (i := 49) (JX.al (k := 1) rfl dX7_saveSegment_26) cl10 (by decide) rfl fk7_49 dX7_saveSegment_27) JA.nil)) aX7_readHooks (RunK.V (i := 53) (c := 7) (n := 1) cl7 rfl (CN nX7_readHooks (by decide) (by decide)) gw1194 gw1196 gs46 dX7_saveSegment_30)) (JS.seq (pc1 := 46) (JS.call (pc1 := 43) (JA.r (JX.al (k := 0) rfl dX7_saveSegment_33) (JA.i (JX.call (pc1 := 40) decI_ok (JA.r (JX.getR (pc1 := 35) (c := 10) (k := 0) (i := 57) (JX.al (k := 1) rfl dX7_saveSegment_34) cl10 (by decide) rfl fk7_57 dX7_saveSegment_35) (JA.i (JX.bp (n := 6) kb6 dX7_saveSegment_38) JA.nil)) aX6_number (RunK.V (i := 61) (c := 6) (n := 1) cl6 rfl (CN nX6_number (by decide) (by decide)) gw1199 gw762 gw763 dX7_saveSegment_40) (by decide)) JA.nil)) aX7_findChampions (RunK.V (i := 67) (c := 7) (n := 1) cl7 rfl (CN nX7_findChampions (by decide) (by decide)) gw1200 gw1202 gs47 dX7_saveSegment_43)) (JS.seq (pc1 := 55) (JS.call (pc1 := 52) (JA.r (JX.getR (pc1 := 47) (c := 10) (k := 7) (i := 33) (JX.al (k := 1) rfl dX7_saveSegment_46) cl10 (by decide) rfl fk7_33 dX7_saveSegment_47) (JA.i (JX.il2 dX7_saveSegment_50) JA.nil)) aX5_add (RunK.V (i := 71) (c := 5) (n := 1) cl5 rfl (CN nX5_add (by decide) (by decide)) gw1189 gw121 gw122 dX7_saveSegment_52)) (JS.seq (pc1 := 134) (JS.sc (JS.seq (pc1 := 58) (JS.is2 (pc1 := 56) (JX.ic (n := 0) rfl dX7_saveSegment_55) (show 6 < 8 by decide) dX7_saveSegment_56) (JS.while (l := 134) (lb := 134) (pc1 := 70) (pc2 := 131) (pc3 := 134) (CJ.lt_f (tgt := 134) (pc1 := 60) (pc2 := 67) (JX.il2 dX7_saveSegment_58) (JX.call (pc1 := 64) decI_ok (JA.r (JX.getR (pc1 := 61) (c := 7) (k := 1) (i := 18) (JX.al (k := 0) rfl dX7_saveSegment_60) cl7 (by decide) rfl fk7_18 dX7_saveSegment_61) JA.nil) aX5_size (RunK.V (i := 38) (c := 5) (n := 0) cl5 rfl (CN nX5_size (by decide) (by decide)) gw1173 gw587 gw588 dX7_saveSegment_64) (by decide)) dX7_saveSegment_67 rfl) (JS.forb (pc1 := 128) (JS.sc (JS.seq (pc1 := 88) (JS.is2 (pc1 := 86) (JX.call (pc1 := 83) decI_ok (JA.r (JX.al (k := 0) rfl dX7_saveSegment_70) (JA.r (JX.al (k := 1) rfl dX7_saveSegment_71) (JA.i (JX.call (pc1 := 78) decI_ok (JA.r (JX.getR (pc1 := 73) (c := 7) (k := 1) (i := 18) (JX.al (k := 0) rfl dX7_saveSegment_72) cl7 (by decide) rfl fk7_18 dX7_saveSegment_73) (JA.i (JX.il2 dX7_saveSegment_76) JA.nil)) aX5_at (RunK.V (i := 74) (c := 5) (n := 1) cl5 rfl (CN nX5_at (by decide) (by decide)) gw1188 gw595 gw596 dX7_saveSegment_78) (by decide)) (JA.i (JX.il2 dX7_saveSegment_81) JA.nil)))) aX7_pieceHad (RunK.V (i := 77) (c := 7) (n := 3) cl7 rfl (CN nX7_pieceHad (by decide) (by decide)) gw1212 gw1214 gs50 dX7_saveSegment_83) (by decide)) (show 7 < 8 by decide) dX7_saveSegment_86) (JS.seq (pc1 := 119) (JS.call (pc1 := 116) (JA.r (JX.getR (pc1 := 89) (c := 10) (k := 6) (i := 42) (JX.al (k := 1) rfl dX7_saveSegment_88) cl10 (by decide) rfl fk7_42 dX7_saveSegment_89) (JA.i (JX.ite (l := 103) (pc1 := 98) (pc2 := 100) (pc3 := 116) (lend := 116) (CJ.ne_f (tgt := 103) (pc1 := 94) (pc2 := 95) (JX.il2 dX7_saveSegment_92) (JX.ic (n := (-1)) rfl dX7_saveSegment_94) dX7_saveSegment_95 rfl) (JX.il2 dX7_saveSegment_98) dX7_saveSegment_100 rfl (JX.call (pc1 := 113) decI_ok (JA.r (JX.al (k := 1) rfl dX7_saveSegment_103) (JA.i (JX.call (pc1 := 110) decI_ok (JA.r (JX.getR (pc1 := 105) (c := 7) (k := 1) (i := 18) (JX.al (k := 0) rfl dX7_saveSegment_104) cl7 (by decide) rfl fk7_18 dX7_saveSegment_105) (JA.i (JX.il2 dX7_saveSegment_108) JA.nil)) aX5_at (RunK.V (i := 74) (c := 5) (n := 1) cl5 rfl (CN nX5_at (by decide) (by decide)) gw1188 gw595 gw596 dX7_saveSegment_110) (by decide)) JA.nil)) aX10_writePiece (RunK.V (i := 81) (c := 10) (n := 1) cl10 rfl (CN nX10_writePiece (by decide) (by decide)) gw1219 gw1220 gw1221 dX7_saveSegment_113) (by decide)) (Or.inl rfl)) JA.nil)) aX5_add (RunK.V (i := 71) (c := 5) (n := 1) cl5 rfl (CN nX5_add (by decide) (by decide)) gw1189 gw121 gw122 dX7_saveSegment_116)) (JS.call (pc1 := 125) (JA.r (JX.getR (pc1 := 120) (c := 7) (k := 0) (i := 12) (JX.al (k := 0) rfl dX7_saveSegment_119) cl7 (by decide) rfl fk7_12 dX7_saveSegment_120) (JA.i (JX.bp (n := (-2)) kbm2 dX7_saveSegment_123) JA.nil)) aX5_add (RunK.V (i := 71) (c := 5) (n := 1) cl5 rfl (CN nX5_add (by decide) (by decide)) gw1189 gw121 gw122 dX7_saveSegment_125))))) (JS.inc (n := 1) rfl (show 6 < 8 by decide) dX7_saveSegment_128)) dX7_saveSegment_131 rfl (Or.inl rfl) (Or.inl rfl)))) (JS.seq (pc1 := 143) (JS.call (pc1 := 140) (JA.r (JX.al (k := 0) rfl dX7_saveSegment_134) (JA.r (JX.al (k := 1) rfl dX7_saveSegment_135) (JA.i (JX.il2 dX7_saveSegment_136) (JA.i (JX.il2 dX7_saveSegment_138) JA.nil)))) aX7_tellHooks (RunK.V (i := 84) (c := 7) (n := 3) cl7 rfl (CN nX7_tellHooks (by decide) (by decide)) gw1223 gw1225 gs51 dX7_saveSegment_140)) (JS.retV dX7_saveSegment_143)))))))))
def mX7_saveSegment : MS := runM 8 none bX7_saveSegment
theorem aX7_saveSegment : MA yX7_saveSegment cX7_saveSegment 8 none 6 mX7_saveSegment := MA.of (plainFor_of_name (by decide)) jX7_saveSegment
theorem eX7_saveSegment (a0 : Nat) (a1 : Nat) (a2 : Int32) (a3 : Int32) (h : AH) : mX7_saveSegment [.ref a0, .ref a1, .int a2, .int a3] h = (bX7_saveSegment [.val (.ref a0), .val (.ref a1), .val (.int a2), .val (.int a3), .unset, .unset, .unset, .unset] h).bind (finM none) := rfl
/-! State.copyFrom -/
theorem dX9_copyFrom_0 : decode cX9_copyFrom 0 = .ok (.aload_n 0, 1) := by decide +kernel
theorem dX9_copyFrom_1 : decode cX9_copyFrom 1 = .ok (.getfield 12, 3) := by decide +kernel
theorem dX9_copyFrom_4 : decode cX9_copyFrom 4 = .ok (.aload_n 1, 1) := by decide +kernel
theorem dX9_copyFrom_5 : decode cX9_copyFrom 5 = .ok (.getfield 12, 3) := by decide +kernel
theorem dX9_copyFrom_8 : decode cX9_copyFrom 8 = .ok (.invokevirtual 71, 3) := by decide +kernel
theorem dX9_copyFrom_11 : decode cX9_copyFrom 11 = .ok (.aload_n 0, 1) := by decide +kernel
theorem dX9_copyFrom_12 : decode cX9_copyFrom 12 = .ok (.getfield 18, 3) := by decide +kernel
theorem dX9_copyFrom_15 : decode cX9_copyFrom 15 = .ok (.aload_n 1, 1) := by decide +kernel
theorem dX9_copyFrom_16 : decode cX9_copyFrom 16 = .ok (.getfield 18, 3) := by decide +kernel
theorem dX9_copyFrom_19 : decode cX9_copyFrom 19 = .ok (.invokevirtual 71, 3) := by decide +kernel
theorem dX9_copyFrom_22 : decode cX9_copyFrom 22 = .ok (.aload_n 0, 1) := by decide +kernel
theorem dX9_copyFrom_23 : decode cX9_copyFrom 23 = .ok (.getfield 21, 3) := by decide +kernel
theorem dX9_copyFrom_26 : decode cX9_copyFrom 26 = .ok (.aload_n 1, 1) := by decide +kernel
theorem dX9_copyFrom_27 : decode cX9_copyFrom 27 = .ok (.getfield 21, 3) := by decide +kernel
theorem dX9_copyFrom_30 : decode cX9_copyFrom 30 = .ok (.invokevirtual 71, 3) := by decide +kernel
theorem dX9_copyFrom_33 : decode cX9_copyFrom 33 = .ok (.aload_n 0, 1) := by decide +kernel
theorem dX9_copyFrom_34 : decode cX9_copyFrom 34 = .ok (.getfield 24, 3) := by decide +kernel
theorem dX9_copyFrom_37 : decode cX9_copyFrom 37 = .ok (.aload_n 1, 1) := by decide +kernel
theorem dX9_copyFrom_38 : decode cX9_copyFrom 38 = .ok (.getfield 24, 3) := by decide +kernel
theorem dX9_copyFrom_41 : decode cX9_copyFrom 41 = .ok (.invokevirtual 71, 3) := by decide +kernel
theorem dX9_copyFrom_44 : decode cX9_copyFrom 44 = .ok (.aload_n 0, 1) := by decide +kernel
theorem dX9_copyFrom_45 : decode cX9_copyFrom 45 = .ok (.getfield 27, 3) := by decide +kernel
theorem dX9_copyFrom_48 : decode cX9_copyFrom 48 = .ok (.aload_n 1, 1) := by decide +kernel
theorem dX9_copyFrom_49 : decode cX9_copyFrom 49 = .ok (.getfield 27, 3) := by decide +kernel
theorem dX9_copyFrom_52 : decode cX9_copyFrom 52 = .ok (.invokevirtual 71, 3) := by decide +kernel
theorem dX9_copyFrom_55 : decode cX9_copyFrom 55 = .ok (.aload_n 0, 1) := by decide +kernel
theorem dX9_copyFrom_56 : decode cX9_copyFrom 56 = .ok (.getfield 30, 3) := by decide +kernel
theorem dX9_copyFrom_59 : decode cX9_copyFrom 59 = .ok (.aload_n 1, 1) := by decide +kernel
theorem dX9_copyFrom_60 : decode cX9_copyFrom 60 = .ok (.getfield 30, 3) := by decide +kernel
theorem dX9_copyFrom_63 : decode cX9_copyFrom 63 = .ok (.invokevirtual 71, 3) := by decide +kernel
theorem dX9_copyFrom_66 : decode cX9_copyFrom 66 = .ok (.aload_n 0, 1) := by decide +kernel
theorem dX9_copyFrom_67 : decode cX9_copyFrom 67 = .ok (.getfield 33, 3) := by decide +kernel
theorem dX9_copyFrom_70 : decode cX9_copyFrom 70 = .ok (.aload_n 1, 1) := by decide +kernel
theorem dX9_copyFrom_71 : decode cX9_copyFrom 71 = .ok (.getfield 33, 3) := by decide +kernel
theorem dX9_copyFrom_74 : decode cX9_copyFrom 74 = .ok (.invokevirtual 71, 3) := by decide +kernel
theorem dX9_copyFrom_77 : decode cX9_copyFrom 77 = .ok (.aload_n 0, 1) := by decide +kernel
theorem dX9_copyFrom_78 : decode cX9_copyFrom 78 = .ok (.aload_n 1, 1) := by decide +kernel
theorem dX9_copyFrom_79 : decode cX9_copyFrom 79 = .ok (.invokevirtual 75, 3) := by decide +kernel
theorem dX9_copyFrom_82 : decode cX9_copyFrom 82 = .ok (.return_, 1) := by decide +kernel
abbrev MX9_copyFrom : MI := (RX9, cX9_copyFrom, 2, 4, false)
def bX9_copyFrom : St := (seqS (calS (ckV 5 1) mX5_copyFrom (agC va_rf (getR 9 0 (lvR 0)) (agC va_rf (getR 9 0 (lvR 1)) agN))) (seqS (calS (ckV 5 1) mX5_copyFrom (agC va_rf (getR 9 1 (lvR 0)) (agC va_rf (getR 9 1 (lvR 1)) agN))) (seqS (calS (ckV 5 1) mX5_copyFrom (agC va_rf (getR 9 2 (lvR 0)) (agC va_rf (getR 9 2 (lvR 1)) agN))) (seqS (calS (ckV 5 1) mX5_copyFrom (agC va_rf (getR 9 3 (lvR 0)) (agC va_rf (getR 9 3 (lvR 1)) agN))) (seqS (calS (ckV 5 1) mX5_copyFrom (agC va_rf (getR 9 4 (lvR 0)) (agC va_rf (getR 9 4 (lvR 1)) agN))) (seqS (calS (ckV 5 1) mX5_copyFrom (agC va_rf (getR 9 5 (lvR 0)) (agC va_rf (getR 9 5 (lvR 1)) agN))) (seqS (calS (ckV 5 1) mX5_copyFrom (agC va_rf (getR 9 6 (lvR 0)) (agC va_rf (getR 9 6 (lvR 1)) agN))) (seqS (calS (ckV 9 1) mX9_copyRest (agC va_rf (lvR 0) (agC va_rf (lvR 1) agN))) retV))))))))
theorem jX9_copyFrom : JS MX9_copyFrom 0 0 0 83 [] bX9_copyFrom :=
  (JS.seq (pc1 := 11) (JS.call (pc1 := 8) (JA.r (JX.getR (pc1 := 1) (c := 9) (k := 0) (i := 12) (JX.al (k := 0) rfl dX9_copyFrom_0) cl9 (by decide) rfl fk9_12 dX9_copyFrom_1) (JA.r (JX.getR (pc1 := 5) (c := 9) (k := 0) (i := 12) (JX.al (k := 1) rfl dX9_copyFrom_4) cl9 (by decide) rfl fk9_12 dX9_copyFrom_5) JA.nil)) aX5_copyFrom (RunK.V (i := 71) (c := 5) (n := 1) cl5 rfl (CN nX5_copyFrom (by decide) (by decide)) gw1056 gw916 gw917 dX9_copyFrom_8)) (JS.seq (pc1 := 22) (JS.call (pc1 := 19) (JA.r (JX.getR (pc1 := 12) (c := 9) (k := 1) (i := 18) (JX.al (k := 0) rfl dX9_copyFrom_11) cl9 (by decide) rfl fk9_18 dX9_copyFrom_12) (JA.r (JX.getR (pc1 := 16) (c := 9) (k := 1) (i := 18) (JX.al (k := 1) rfl dX9_copyFrom_15) cl9 (by decide) rfl fk9_18 dX9_copyFrom_16) JA.nil)) aX5_copyFrom (RunK.V (i := 71) (c := 5) (n := 1) cl5 rfl (CN nX5_copyFrom (by decide) (by decide)) gw1056 gw916 gw917 dX9_copyFrom_19)) (JS.seq (pc1 := 33) (JS.call (pc1 := 30) (JA.r (JX.getR (pc1 := 23) (c := 9) (k := 2) (i := 21) (JX.al (k := 0) rfl dX9_copyFrom_22) cl9 (by decide) rfl fk9_21 dX9_copyFrom_23) (JA.r (JX.getR (pc1 := 27) (c := 9) (k := 2) (i := 21) (JX.al (k := 1) rfl dX9_copyFrom_26) cl9 (by decide) rfl fk9_21 dX9_copyFrom_27) JA.nil)) aX5_copyFrom (RunK.V (i := 71) (c := 5) (n := 1) cl5 rfl (CN nX5_copyFrom (by decide) (by decide)) gw1056 gw916 gw917 dX9_copyFrom_30)) (JS.seq (pc1 := 44) (JS.call (pc1 := 41) (JA.r (JX.getR (pc1 := 34) (c := 9) (k := 3) (i := 24) (JX.al (k := 0) rfl dX9_copyFrom_33) cl9 (by decide) rfl fk9_24 dX9_copyFrom_34) (JA.r (JX.getR (pc1 := 38) (c := 9) (k := 3) (i := 24) (JX.al (k := 1) rfl dX9_copyFrom_37) cl9 (by decide) rfl fk9_24 dX9_copyFrom_38) JA.nil)) aX5_copyFrom (RunK.V (i := 71) (c := 5) (n := 1) cl5 rfl (CN nX5_copyFrom (by decide) (by decide)) gw1056 gw916 gw917 dX9_copyFrom_41)) (JS.seq (pc1 := 55) (JS.call (pc1 := 52) (JA.r (JX.getR (pc1 := 45) (c := 9) (k := 4) (i := 27) (JX.al (k := 0) rfl dX9_copyFrom_44) cl9 (by decide) rfl fk9_27 dX9_copyFrom_45) (JA.r (JX.getR (pc1 := 49) (c := 9) (k := 4) (i := 27) (JX.al (k := 1) rfl dX9_copyFrom_48) cl9 (by decide) rfl fk9_27 dX9_copyFrom_49) JA.nil)) aX5_copyFrom (RunK.V (i := 71) (c := 5) (n := 1) cl5 rfl (CN nX5_copyFrom (by decide) (by decide)) gw1056 gw916 gw917 dX9_copyFrom_52)) (JS.seq (pc1 := 66) (JS.call (pc1 := 63) (JA.r (JX.getR (pc1 := 56) (c := 9) (k := 5) (i := 30) (JX.al (k := 0) rfl dX9_copyFrom_55) cl9 (by decide) rfl fk9_30 dX9_copyFrom_56) (JA.r (JX.getR (pc1 := 60) (c := 9) (k := 5) (i := 30) (JX.al (k := 1) rfl dX9_copyFrom_59) cl9 (by decide) rfl fk9_30 dX9_copyFrom_60) JA.nil)) aX5_copyFrom (RunK.V (i := 71) (c := 5) (n := 1) cl5 rfl (CN nX5_copyFrom (by decide) (by decide)) gw1056 gw916 gw917 dX9_copyFrom_63)) (JS.seq (pc1 := 77) (JS.call (pc1 := 74) (JA.r (JX.getR (pc1 := 67) (c := 9) (k := 6) (i := 33) (JX.al (k := 0) rfl dX9_copyFrom_66) cl9 (by decide) rfl fk9_33 dX9_copyFrom_67) (JA.r (JX.getR (pc1 := 71) (c := 9) (k := 6) (i := 33) (JX.al (k := 1) rfl dX9_copyFrom_70) cl9 (by decide) rfl fk9_33 dX9_copyFrom_71) JA.nil)) aX5_copyFrom (RunK.V (i := 71) (c := 5) (n := 1) cl5 rfl (CN nX5_copyFrom (by decide) (by decide)) gw1056 gw916 gw917 dX9_copyFrom_74)) (JS.seq (pc1 := 82) (JS.call (pc1 := 79) (JA.r (JX.al (k := 0) rfl dX9_copyFrom_77) (JA.r (JX.al (k := 1) rfl dX9_copyFrom_78) JA.nil)) aX9_copyRest (RunK.V (i := 75) (c := 9) (n := 1) cl9 rfl (CN nX9_copyRest (by decide) (by decide)) gw1166 gw1053 gw1054 dX9_copyFrom_79)) (JS.retV dX9_copyFrom_82)))))))))
def mX9_copyFrom : MS := runM 2 none bX9_copyFrom
theorem aX9_copyFrom : MA yX9_copyFrom cX9_copyFrom 2 none 4 mX9_copyFrom := MA.of (plainFor_of_name (by decide)) jX9_copyFrom
theorem eX9_copyFrom (a0 : Nat) (a1 : Nat) (h : AH) : mX9_copyFrom [.ref a0, .ref a1] h = (bX9_copyFrom [.val (.ref a0), .val (.ref a1)] h).bind (finM none) := rfl
/-! Vault.remember -/
theorem dX10_remember_0 : decode cX10_remember 0 = .ok (.aload_n 0, 1) := by decide +kernel
theorem dX10_remember_1 : decode cX10_remember 1 = .ok (.getfield 75, 3) := by decide +kernel
theorem dX10_remember_4 : decode cX10_remember 4 = .ok (.ifCond .lt 15, 3) := by decide +kernel
theorem dX10_remember_7 : decode cX10_remember 7 = .ok (.aload_n 0, 1) := by decide +kernel
theorem dX10_remember_8 : decode cX10_remember 8 = .ok (.getfield 75, 3) := by decide +kernel
theorem dX10_remember_11 : decode cX10_remember 11 = .ok (.aload_n 0, 1) := by decide +kernel
theorem dX10_remember_12 : decode cX10_remember 12 = .ok (.getfield 71, 3) := by decide +kernel
theorem dX10_remember_15 : decode cX10_remember 15 = .ok (.arraylength, 1) := by decide +kernel
theorem dX10_remember_16 : decode cX10_remember 16 = .ok (.if_icmp .lt 4, 3) := by decide +kernel
theorem dX10_remember_19 : decode cX10_remember 19 = .ok (.return_, 1) := by decide +kernel
theorem dX10_remember_20 : decode cX10_remember 20 = .ok (.aload_n 0, 1) := by decide +kernel
theorem dX10_remember_21 : decode cX10_remember 21 = .ok (.getfield 71, 3) := by decide +kernel
theorem dX10_remember_24 : decode cX10_remember 24 = .ok (.aload_n 0, 1) := by decide +kernel
theorem dX10_remember_25 : decode cX10_remember 25 = .ok (.getfield 75, 3) := by decide +kernel
theorem dX10_remember_28 : decode cX10_remember 28 = .ok (.aaload, 1) := by decide +kernel
theorem dX10_remember_29 : decode cX10_remember 29 = .ok (.ifnonnull 19, 3) := by decide +kernel
theorem dX10_remember_32 : decode cX10_remember 32 = .ok (.aload_n 0, 1) := by decide +kernel
theorem dX10_remember_33 : decode cX10_remember 33 = .ok (.getfield 71, 3) := by decide +kernel
theorem dX10_remember_36 : decode cX10_remember 36 = .ok (.aload_n 0, 1) := by decide +kernel
theorem dX10_remember_37 : decode cX10_remember 37 = .ok (.getfield 75, 3) := by decide +kernel
theorem dX10_remember_40 : decode cX10_remember 40 = .ok (.new 61, 3) := by decide +kernel
theorem dX10_remember_43 : decode cX10_remember 43 = .ok (.dup, 1) := by decide +kernel
theorem dX10_remember_44 : decode cX10_remember 44 = .ok (.invokespecial 63, 3) := by decide +kernel
theorem dX10_remember_47 : decode cX10_remember 47 = .ok (.aastore, 1) := by decide +kernel
theorem dX10_remember_48 : decode cX10_remember 48 = .ok (.aload_n 0, 1) := by decide +kernel
theorem dX10_remember_49 : decode cX10_remember 49 = .ok (.getfield 71, 3) := by decide +kernel
theorem dX10_remember_52 : decode cX10_remember 52 = .ok (.aload_n 0, 1) := by decide +kernel
theorem dX10_remember_53 : decode cX10_remember 53 = .ok (.getfield 75, 3) := by decide +kernel
theorem dX10_remember_56 : decode cX10_remember 56 = .ok (.aaload, 1) := by decide +kernel
theorem dX10_remember_57 : decode cX10_remember 57 = .ok (.aload_n 0, 1) := by decide +kernel
theorem dX10_remember_58 : decode cX10_remember 58 = .ok (.getfield 64, 3) := by decide +kernel
theorem dX10_remember_61 : decode cX10_remember 61 = .ok (.invokevirtual 222, 3) := by decide +kernel
theorem dX10_remember_64 : decode cX10_remember 64 = .ok (.aload_n 0, 1) := by decide +kernel
theorem dX10_remember_65 : decode cX10_remember 65 = .ok (.aload_n 0, 1) := by decide +kernel
theorem dX10_remember_66 : decode cX10_remember 66 = .ok (.getfield 75, 3) := by decide +kernel
theorem dX10_remember_69 : decode cX10_remember 69 = .ok (.iconst 1, 1) := by decide +kernel
theorem dX10_remember_70 : decode cX10_remember 70 = .ok (.iadd, 1) := by decide +kernel
theorem dX10_remember_71 : decode cX10_remember 71 = .ok (.bipush 20, 2) := by decide +kernel
theorem dX10_remember_73 : decode cX10_remember 73 = .ok (.irem, 1) := by decide +kernel
theorem dX10_remember_74 : decode cX10_remember 74 = .ok (.putfield 75, 3) := by decide +kernel
theorem dX10_remember_77 : decode cX10_remember 77 = .ok (.aload_n 0, 1) := by decide +kernel
theorem dX10_remember_78 : decode cX10_remember 78 = .ok (.aload_n 0, 1) := by decide +kernel
theorem dX10_remember_79 : decode cX10_remember 79 = .ok (.getfield 79, 3) := by decide +kernel
theorem dX10_remember_82 : decode cX10_remember 82 = .ok (.iconst 1, 1) := by decide +kernel
theorem dX10_remember_83 : decode cX10_remember 83 = .ok (.iadd, 1) := by decide +kernel
theorem dX10_remember_84 : decode cX10_remember 84 = .ok (.bipush 20, 2) := by decide +kernel
theorem dX10_remember_86 : decode cX10_remember 86 = .ok (.invokestatic 226, 3) := by decide +kernel
theorem dX10_remember_89 : decode cX10_remember 89 = .ok (.putfield 79, 3) := by decide +kernel
theorem dX10_remember_92 : decode cX10_remember 92 = .ok (.return_, 1) := by decide +kernel
abbrev MX10_remember : MI := (RX10, cX10_remember, 1, 5, false)
def bX10_remember : St := (seqS (ifS (orX (lt0 (getI 10 13 (lvR 0))) (geI (getI 10 13 (lvR 0)) (alnI (getR 10 12 (lvR 0))))) retV) (seqS (ifS (nulX (aldR (getR 10 12 (lvR 0)) (getI 10 13 (lvR 0)))) (astR (getR 10 12 (lvR 0)) (getI 10 13 (lvR 0)) (newO 9 mX9_init))) (seqS (calS (ckV 9 1) mX9_copyFrom (agC va_rf (aldR (getR 10 12 (lvR 0)) (getI 10 13 (lvR 0))) (agC va_rf (getR 10 10 (lvR 0)) agN))) (seqS (putI 10 13 (lvR 0) (remI (addI (getI 10 13 (lvR 0)) (ciI (iI 1))) (ciI (iI 20)))) (seqS (putI 10 14 (lvR 0) (calX decI (ckS 2) mJ9_min_7cf53 (agC Value.int (addI (getI 10 14 (lvR 0)) (ciI (iI 1))) (agC Value.int (ciI (iI 20)) agN)))) retV)))))
theorem jX10_remember : JS MX10_remember 0 0 0 93 [] bX10_remember :=
  (JS.seq (pc1 := 20) (JS.iff (l := 20) (pc1 := 19) (CJ.or_f (l := 19) (pc1 := 7) (CJ.lt0_t (tgt := 19) (pc1 := 4) (JX.getI (pc1 := 1) (c := 10) (k := 13) (i := 75) (JX.al (k := 0) rfl dX10_remember_0) cl10 (by decide) rfl fk10_75 dX10_remember_1) dX10_remember_4 rfl) (CJ.ge_f (tgt := 20) (pc1 := 11) (pc2 := 16) (JX.getI (pc1 := 8) (c := 10) (k := 13) (i := 75) (JX.al (k := 0) rfl dX10_remember_7) cl10 (by decide) rfl fk10_75 dX10_remember_8) (JX.aln (pc1 := 15) (JX.getR (pc1 := 12) (c := 10) (k := 12) (i := 71) (JX.al (k := 0) rfl dX10_remember_11) cl10 (by decide) rfl fk10_71 dX10_remember_12) dX10_remember_15) dX10_remember_16 rfl) (Or.inl rfl)) (JS.retV dX10_remember_19) (Or.inl rfl)) (JS.seq (pc1 := 48) (JS.iff (l := 48) (pc1 := 32) (CJ.null_f (tgt := 48) (pc1 := 29) (JX.aald (pc1 := 24) (pc2 := 28) (JX.getR (pc1 := 21) (c := 10) (k := 12) (i := 71) (JX.al (k := 0) rfl dX10_remember_20) cl10 (by decide) rfl fk10_71 dX10_remember_21) (JX.getI (pc1 := 25) (c := 10) (k := 13) (i := 75) (JX.al (k := 0) rfl dX10_remember_24) cl10 (by decide) rfl fk10_75 dX10_remember_25) dX10_remember_28) dX10_remember_29 rfl) (JS.ra (pc1 := 36) (pc2 := 40) (pc3 := 47) cl9 (JX.getR (pc1 := 33) (c := 10) (k := 12) (i := 71) (JX.al (k := 0) rfl dX10_remember_32) cl10 (by decide) rfl fk10_71 dX10_remember_33) (JX.getI (pc1 := 37) (c := 10) (k := 13) (i := 75) (JX.al (k := 0) rfl dX10_remember_36) cl10 (by decide) rfl fk10_75 dX10_remember_37) (JX.new (i := 61) (c := 9) cl9 fok9 gw324 gw325 gw17 dX10_remember_40 dX10_remember_43 aX9_init (RunK.I (i := 63) (n := 0) rfl (CN nX9_init (by decide) (by decide)) (Or.inr nw326) gw327 dX10_remember_44) (by decide)) dX10_remember_47) (Or.inl rfl)) (JS.seq (pc1 := 64) (JS.call (pc1 := 61) (JA.r (JX.aald (pc1 := 52) (pc2 := 56) (JX.getR (pc1 := 49) (c := 10) (k := 12) (i := 71) (JX.al (k := 0) rfl dX10_remember_48) cl10 (by decide) rfl fk10_71 dX10_remember_49) (JX.getI (pc1 := 53) (c := 10) (k := 13) (i := 75) (JX.al (k := 0) rfl dX10_remember_52) cl10 (by decide) rfl fk10_75 dX10_remember_53) dX10_remember_56) (JA.r (JX.getR (pc1 := 58) (c := 10) (k := 10) (i := 64) (JX.al (k := 0) rfl dX10_remember_57) cl10 (by decide) rfl fk10_64 dX10_remember_58) JA.nil)) aX9_copyFrom (RunK.V (i := 222) (c := 9) (n := 1) cl9 rfl (CN nX9_copyFrom (by decide) (by decide)) gw1162 gw1163 gw1164 dX10_remember_61)) (JS.seq (pc1 := 77) (JS.pI (pc1 := 65) (pc2 := 74) (c := 10) (k := 13) (i := 75) (JX.al (k := 0) rfl dX10_remember_64) (JX.irem (pc1 := 71) (pc2 := 73) (JX.iadd (pc1 := 69) (pc2 := 70) (JX.getI (pc1 := 66) (c := 10) (k := 13) (i := 75) (JX.al (k := 0) rfl dX10_remember_65) cl10 (by decide) rfl fk10_75 dX10_remember_66) (JX.ic (n := 1) rfl dX10_remember_69) dX10_remember_70) (JX.bp (n := 20) kb20 dX10_remember_71) dX10_remember_73) cl10 (by decide) rfl fk10_75 (Or.inl rfl) dX10_remember_74) (JS.seq (pc1 := 92) (JS.pI (pc1 := 78) (pc2 := 89) (c := 10) (k := 14) (i := 79) (JX.al (k := 0) rfl dX10_remember_77) (JX.call (pc1 := 86) decI_ok (JA.i (JX.iadd (pc1 := 82) (pc2 := 83) (JX.getI (pc1 := 79) (c := 10) (k := 14) (i := 79) (JX.al (k := 0) rfl dX10_remember_78) cl10 (by decide) rfl fk10_79 dX10_remember_79) (JX.ic (n := 1) rfl dX10_remember_82) dX10_remember_83) (JA.i (JX.bp (n := 20) kb20 dX10_remember_84) JA.nil)) aJ9_min_7cf53 (RunK.S (i := 226) (n := 2) (CN nJ9_min_7cf53 (by decide) (by decide)) gw1167 gw135 dX10_remember_86) (by decide)) cl10 (by decide) rfl fk10_79 (Or.inl rfl) dX10_remember_89) (JS.retV dX10_remember_92))))))
def mX10_remember : MS := runM 1 none bX10_remember
theorem aX10_remember : MA yX10_remember cX10_remember 1 none 5 mX10_remember := MA.of (plainFor_of_name (by decide)) jX10_remember
theorem eX10_remember (a0 : Nat) (h : AH) : mX10_remember [.ref a0] h = (bX10_remember [.val (.ref a0)] h).bind (finM none) := rfl
/-! Vault.saveFile -/
theorem dX10_saveFile_0 : decode cX10_saveFile 0 = .ok (.aload_n 0, 1) := by decide +kernel
theorem dX10_saveFile_1 : decode cX10_saveFile 1 = .ok (.invokevirtual 256, 3) := by decide +kernel
theorem dX10_saveFile_4 : decode cX10_saveFile 4 = .ok (.aload_n 0, 1) := by decide +kernel
theorem dX10_saveFile_5 : decode cX10_saveFile 5 = .ok (.invokevirtual 250, 3) := by decide +kernel
theorem dX10_saveFile_8 : decode cX10_saveFile 8 = .ok (.istore_n 1, 1) := by decide +kernel
theorem dX10_saveFile_9 : decode cX10_saveFile 9 = .ok (.aload_n 0, 1) := by decide +kernel
theorem dX10_saveFile_10 : decode cX10_saveFile 10 = .ok (.getfield 64, 3) := by decide +kernel
theorem dX10_saveFile_13 : decode cX10_saveFile 13 = .ok (.getfield 121, 3) := by decide +kernel
theorem dX10_saveFile_16 : decode cX10_saveFile 16 = .ok (.invokevirtual 157, 3) := by decide +kernel
theorem dX10_saveFile_19 : decode cX10_saveFile 19 = .ok (.istore_n 2, 1) := by decide +kernel
theorem dX10_saveFile_20 : decode cX10_saveFile 20 = .ok (.aload_n 0, 1) := by decide +kernel
theorem dX10_saveFile_21 : decode cX10_saveFile 21 = .ok (.getfield 21, 3) := by decide +kernel
theorem dX10_saveFile_24 : decode cX10_saveFile 24 = .ok (.invokevirtual 171, 3) := by decide +kernel
theorem dX10_saveFile_27 : decode cX10_saveFile 27 = .ok (.istore_n 3, 1) := by decide +kernel
theorem dX10_saveFile_28 : decode cX10_saveFile 28 = .ok (.iconst 1, 1) := by decide +kernel
theorem dX10_saveFile_29 : decode cX10_saveFile 29 = .ok (.aload_n 0, 1) := by decide +kernel
theorem dX10_saveFile_30 : decode cX10_saveFile 30 = .ok (.getfield 12, 3) := by decide +kernel
theorem dX10_saveFile_33 : decode cX10_saveFile 33 = .ok (.iconst 5, 1) := by decide +kernel
theorem dX10_saveFile_34 : decode cX10_saveFile 34 = .ok (.invokevirtual 147, 3) := by decide +kernel
theorem dX10_saveFile_37 : decode cX10_saveFile 37 = .ok (.invokestatic 259, 3) := by decide +kernel
theorem dX10_saveFile_40 : decode cX10_saveFile 40 = .ok (.istore 4, 2) := by decide +kernel
theorem dX10_saveFile_42 : decode cX10_saveFile 42 = .ok (.aload_n 0, 1) := by decide +kernel
theorem dX10_saveFile_43 : decode cX10_saveFile 43 = .ok (.getfield 64, 3) := by decide +kernel
theorem dX10_saveFile_46 : decode cX10_saveFile 46 = .ok (.getfield 184, 3) := by decide +kernel
theorem dX10_saveFile_49 : decode cX10_saveFile 49 = .ok (.iload_n 1, 1) := by decide +kernel
theorem dX10_saveFile_50 : decode cX10_saveFile 50 = .ok (.aload_n 0, 1) := by decide +kernel
theorem dX10_saveFile_51 : decode cX10_saveFile 51 = .ok (.getfield 64, 3) := by decide +kernel
theorem dX10_saveFile_54 : decode cX10_saveFile 54 = .ok (.getfield 150, 3) := by decide +kernel
theorem dX10_saveFile_57 : decode cX10_saveFile 57 = .ok (.invokevirtual 168, 3) := by decide +kernel
theorem dX10_saveFile_60 : decode cX10_saveFile 60 = .ok (.aload_n 0, 1) := by decide +kernel
theorem dX10_saveFile_61 : decode cX10_saveFile 61 = .ok (.getfield 64, 3) := by decide +kernel
theorem dX10_saveFile_64 : decode cX10_saveFile 64 = .ok (.getfield 118, 3) := by decide +kernel
theorem dX10_saveFile_67 : decode cX10_saveFile 67 = .ok (.iload_n 1, 1) := by decide +kernel
theorem dX10_saveFile_68 : decode cX10_saveFile 68 = .ok (.aload_n 0, 1) := by decide +kernel
theorem dX10_saveFile_69 : decode cX10_saveFile 69 = .ok (.getfield 49, 3) := by decide +kernel
theorem dX10_saveFile_72 : decode cX10_saveFile 72 = .ok (.invokevirtual 157, 3) := by decide +kernel
theorem dX10_saveFile_75 : decode cX10_saveFile 75 = .ok (.invokevirtual 168, 3) := by decide +kernel
theorem dX10_saveFile_78 : decode cX10_saveFile 78 = .ok (.aload_n 0, 1) := by decide +kernel
theorem dX10_saveFile_79 : decode cX10_saveFile 79 = .ok (.getfield 64, 3) := by decide +kernel
theorem dX10_saveFile_82 : decode cX10_saveFile 82 = .ok (.getfield 111, 3) := by decide +kernel
theorem dX10_saveFile_85 : decode cX10_saveFile 85 = .ok (.iload_n 1, 1) := by decide +kernel
theorem dX10_saveFile_86 : decode cX10_saveFile 86 = .ok (.iload_n 3, 1) := by decide +kernel
theorem dX10_saveFile_87 : decode cX10_saveFile 87 = .ok (.invokevirtual 168, 3) := by decide +kernel
theorem dX10_saveFile_90 : decode cX10_saveFile 90 = .ok (.iconst 0, 1) := by decide +kernel
theorem dX10_saveFile_91 : decode cX10_saveFile 91 = .ok (.istore 5, 2) := by decide +kernel
theorem dX10_saveFile_93 : decode cX10_saveFile 93 = .ok (.iload 5, 2) := by decide +kernel
theorem dX10_saveFile_95 : decode cX10_saveFile 95 = .ok (.iload_n 3, 1) := by decide +kernel
theorem dX10_saveFile_96 : decode cX10_saveFile 96 = .ok (.if_icmp .ge 32, 3) := by decide +kernel
theorem dX10_saveFile_99 : decode cX10_saveFile 99 = .ok (.aload_n 0, 1) := by decide +kernel
theorem dX10_saveFile_100 : decode cX10_saveFile 100 = .ok (.getfield 35, 3) := by decide +kernel
theorem dX10_saveFile_103 : decode cX10_saveFile 103 = .ok (.aload_n 0, 1) := by decide +kernel
theorem dX10_saveFile_104 : decode cX10_saveFile 104 = .ok (.iload 5, 2) := by decide +kernel
theorem dX10_saveFile_106 : decode cX10_saveFile 106 = .ok (.iload 5, 2) := by decide +kernel
theorem dX10_saveFile_108 : decode cX10_saveFile 108 = .ok (.iload 4, 2) := by decide +kernel
theorem dX10_saveFile_110 : decode cX10_saveFile 110 = .ok (.iadd, 1) := by decide +kernel
theorem dX10_saveFile_111 : decode cX10_saveFile 111 = .ok (.iload_n 3, 1) := by decide +kernel
theorem dX10_saveFile_112 : decode cX10_saveFile 112 = .ok (.invokestatic 226, 3) := by decide +kernel
theorem dX10_saveFile_115 : decode cX10_saveFile 115 = .ok (.invokevirtual 262, 3) := by decide +kernel
theorem dX10_saveFile_118 : decode cX10_saveFile 118 = .ok (.iload 5, 2) := by decide +kernel
theorem dX10_saveFile_120 : decode cX10_saveFile 120 = .ok (.iload 4, 2) := by decide +kernel
theorem dX10_saveFile_122 : decode cX10_saveFile 122 = .ok (.iadd, 1) := by decide +kernel
theorem dX10_saveFile_123 : decode cX10_saveFile 123 = .ok (.istore 5, 2) := by decide +kernel
theorem dX10_saveFile_125 : decode cX10_saveFile 125 = .ok (.goto (-32), 3) := by decide +kernel
theorem dX10_saveFile_128 : decode cX10_saveFile 128 = .ok (.aload_n 0, 1) := by decide +kernel
theorem dX10_saveFile_129 : decode cX10_saveFile 129 = .ok (.getfield 64, 3) := by decide +kernel
theorem dX10_saveFile_132 : decode cX10_saveFile 132 = .ok (.aload_n 0, 1) := by decide +kernel
theorem dX10_saveFile_133 : decode cX10_saveFile 133 = .ok (.getfield 49, 3) := by decide +kernel
theorem dX10_saveFile_136 : decode cX10_saveFile 136 = .ok (.invokevirtual 157, 3) := by decide +kernel
theorem dX10_saveFile_139 : decode cX10_saveFile 139 = .ok (.putfield 231, 3) := by decide +kernel
theorem dX10_saveFile_142 : decode cX10_saveFile 142 = .ok (.aload_n 0, 1) := by decide +kernel
theorem dX10_saveFile_143 : decode cX10_saveFile 143 = .ok (.getfield 64, 3) := by decide +kernel
theorem dX10_saveFile_146 : decode cX10_saveFile 146 = .ok (.aload_n 0, 1) := by decide +kernel
theorem dX10_saveFile_147 : decode cX10_saveFile 147 = .ok (.getfield 52, 3) := by decide +kernel
theorem dX10_saveFile_150 : decode cX10_saveFile 150 = .ok (.invokevirtual 157, 3) := by decide +kernel
theorem dX10_saveFile_153 : decode cX10_saveFile 153 = .ok (.putfield 241, 3) := by decide +kernel
theorem dX10_saveFile_156 : decode cX10_saveFile 156 = .ok (.aload_n 0, 1) := by decide +kernel
theorem dX10_saveFile_157 : decode cX10_saveFile 157 = .ok (.getfield 64, 3) := by decide +kernel
theorem dX10_saveFile_160 : decode cX10_saveFile 160 = .ok (.getfield 266, 3) := by decide +kernel
theorem dX10_saveFile_163 : decode cX10_saveFile 163 = .ok (.bipush 64, 2) := by decide +kernel
theorem dX10_saveFile_165 : decode cX10_saveFile 165 = .ok (.irem, 1) := by decide +kernel
theorem dX10_saveFile_166 : decode cX10_saveFile 166 = .ok (.istore 5, 2) := by decide +kernel
theorem dX10_saveFile_168 : decode cX10_saveFile 168 = .ok (.aload_n 0, 1) := by decide +kernel
theorem dX10_saveFile_169 : decode cX10_saveFile 169 = .ok (.getfield 85, 3) := by decide +kernel
theorem dX10_saveFile_172 : decode cX10_saveFile 172 = .ok (.iload 5, 2) := by decide +kernel
theorem dX10_saveFile_174 : decode cX10_saveFile 174 = .ok (.aload_n 0, 1) := by decide +kernel
theorem dX10_saveFile_175 : decode cX10_saveFile 175 = .ok (.getfield 64, 3) := by decide +kernel
theorem dX10_saveFile_178 : decode cX10_saveFile 178 = .ok (.getfield 150, 3) := by decide +kernel
theorem dX10_saveFile_181 : decode cX10_saveFile 181 = .ok (.invokevirtual 168, 3) := by decide +kernel
theorem dX10_saveFile_184 : decode cX10_saveFile 184 = .ok (.aload_n 0, 1) := by decide +kernel
theorem dX10_saveFile_185 : decode cX10_saveFile 185 = .ok (.getfield 88, 3) := by decide +kernel
theorem dX10_saveFile_188 : decode cX10_saveFile 188 = .ok (.iload 5, 2) := by decide +kernel
theorem dX10_saveFile_190 : decode cX10_saveFile 190 = .ok (.iload_n 3, 1) := by decide +kernel
theorem dX10_saveFile_191 : decode cX10_saveFile 191 = .ok (.invokevirtual 168, 3) := by decide +kernel
theorem dX10_saveFile_194 : decode cX10_saveFile 194 = .ok (.aload_n 0, 1) := by decide +kernel
theorem dX10_saveFile_195 : decode cX10_saveFile 195 = .ok (.getfield 91, 3) := by decide +kernel
theorem dX10_saveFile_198 : decode cX10_saveFile 198 = .ok (.iload 5, 2) := by decide +kernel
theorem dX10_saveFile_200 : decode cX10_saveFile 200 = .ok (.aload_n 0, 1) := by decide +kernel
theorem dX10_saveFile_201 : decode cX10_saveFile 201 = .ok (.getfield 64, 3) := by decide +kernel
theorem dX10_saveFile_204 : decode cX10_saveFile 204 = .ok (.getfield 121, 3) := by decide +kernel
theorem dX10_saveFile_207 : decode cX10_saveFile 207 = .ok (.invokevirtual 157, 3) := by decide +kernel
theorem dX10_saveFile_210 : decode cX10_saveFile 210 = .ok (.iload_n 2, 1) := by decide +kernel
theorem dX10_saveFile_211 : decode cX10_saveFile 211 = .ok (.isub, 1) := by decide +kernel
theorem dX10_saveFile_212 : decode cX10_saveFile 212 = .ok (.invokevirtual 168, 3) := by decide +kernel
theorem dX10_saveFile_215 : decode cX10_saveFile 215 = .ok (.aload_n 0, 1) := by decide +kernel
theorem dX10_saveFile_216 : decode cX10_saveFile 216 = .ok (.getfield 64, 3) := by decide +kernel
theorem dX10_saveFile_219 : decode cX10_saveFile 219 = .ok (.dup, 1) := by decide +kernel
theorem dX10_saveFile_220 : decode cX10_saveFile 220 = .ok (.getfield 266, 3) := by decide +kernel
theorem dX10_saveFile_223 : decode cX10_saveFile 223 = .ok (.iconst 1, 1) := by decide +kernel
theorem dX10_saveFile_224 : decode cX10_saveFile 224 = .ok (.iadd, 1) := by decide +kernel
theorem dX10_saveFile_225 : decode cX10_saveFile 225 = .ok (.putfield 266, 3) := by decide +kernel
theorem dX10_saveFile_228 : decode cX10_saveFile 228 = .ok (.iload_n 1, 1) := by decide +kernel
theorem dX10_saveFile_229 : decode cX10_saveFile 229 = .ok (.ireturn, 1) := by decide +kernel
abbrev MX10_saveFile : MI := (RX10, cX10_saveFile, 6, 7, false)
def lcX10_saveFile_1 : Ex Bool := (ltI (lvI 5) (lvI 3))
def lbX10_saveFile_1 : St := (forB (calS (ckV 7 3) mX7_saveSegment (agC va_rf (getR 10 3 (lvR 0)) (agC va_rf (lvR 0) (agC Value.int (lvI 5) (agC Value.int (calX decI (ckS 2) mJ9_min_7cf53 (agC Value.int (addI (lvI 5) (lvI 4)) (agC Value.int (lvI 3) agN))) agN))))) (lsI 5 (addI (lvI 5) (lvI 4))))
def bX10_saveFile : St := (seqS (calS (ckV 10 0) mX10_remember (agC va_rf (lvR 0) agN)) (seqS (lsI 1 (calX decI (ckV 10 0) mX10_freeNumber (agC va_rf (lvR 0) agN))) (seqS (lsI 2 (calX decI (ckV 5 0) mX5_size (agC va_rf (getR 9 0 (getR 10 10 (lvR 0))) agN))) (seqS (lsI 3 (calX decI (ckV 1 0) mX1_count (agC va_rf (getR 10 1 (lvR 0)) agN))) (seqS (lsI 4 (calX decI (ckS 2) mJ9_max_7cf53 (agC Value.int (ciI (iI 1)) (agC Value.int (calX decI (ckV 6 1) mX6_number (agC va_rf (getR 10 0 (lvR 0)) (agC Value.int (ciI (iI 5)) agN))) agN)))) (seqS (calS (ckV 5 2) mX5_put (agC va_rf (getR 9 7 (getR 10 10 (lvR 0))) (agC Value.int (lvI 1) (agC Value.int (getI 9 10 (getR 10 10 (lvR 0))) agN)))) (seqS (calS (ckV 5 2) mX5_put (agC va_rf (getR 9 8 (getR 10 10 (lvR 0))) (agC Value.int (lvI 1) (agC Value.int (calX decI (ckV 5 0) mX5_size (agC va_rf (getR 10 6 (lvR 0)) agN)) agN)))) (seqS (calS (ckV 5 2) mX5_put (agC va_rf (getR 9 9 (getR 10 10 (lvR 0))) (agC Value.int (lvI 1) (agC Value.int (lvI 3) agN)))) (seqS (scS 5 (seqS (lsI 5 (ciI (iI 0))) (whileS lcX10_saveFile_1 lbX10_saveFile_1))) (seqS (putI 9 13 (getR 10 10 (lvR 0)) (calX decI (ckV 5 0) mX5_size (agC va_rf (getR 10 6 (lvR 0)) agN))) (seqS (putI 9 14 (getR 10 10 (lvR 0)) (calX decI (ckV 5 0) mX5_size (agC va_rf (getR 10 7 (lvR 0)) agN))) (seqS (lsI 5 (remI (getI 9 12 (getR 10 10 (lvR 0))) (ciI (iI 64)))) (seqS (calS (ckV 5 2) mX5_put (agC va_rf (getR 10 16 (lvR 0)) (agC Value.int (lvI 5) (agC Value.int (getI 9 10 (getR 10 10 (lvR 0))) agN)))) (seqS (calS (ckV 5 2) mX5_put (agC va_rf (getR 10 17 (lvR 0)) (agC Value.int (lvI 5) (agC Value.int (lvI 3) agN)))) (seqS (calS (ckV 5 2) mX5_put (agC va_rf (getR 10 18 (lvR 0)) (agC Value.int (lvI 5) (agC Value.int (subI (calX decI (ckV 5 0) mX5_size (agC va_rf (getR 9 0 (getR 10 10 (lvR 0))) agN)) (lvI 2)) agN)))) (seqS (updI 9 12 (fun x y => x + y) (getR 10 10 (lvR 0)) (ciI (iI 1))) (retI (lvI 1))))))))))))))))))
theorem jX10_saveFile : JS MX10_saveFile 0 0 0 230 [] bX10_saveFile :=
  (JS.seq (pc1 := 4) (JS.call (pc1 := 1) (JA.r (JX.al (k := 0) rfl dX10_saveFile_0) JA.nil) aX10_remember (RunK.V (i := 256) (c := 10) (n := 0) cl10 rfl (CN nX10_remember (by decide) (by decide)) gw1158 gw1159 gw1160 dX10_saveFile_1)) (JS.seq (pc1 := 9) (JS.is (pc1 := 8) (k := 1) (JX.call (pc1 := 5) decI_ok (JA.r (JX.al (k := 0) rfl dX10_saveFile_4) JA.nil) aX10_freeNumber (RunK.V (i := 250) (c := 10) (n := 0) cl10 rfl (CN nX10_freeNumber (by decide) (by decide)) gw1149 gw1151 gs44 dX10_saveFile_5) (by decide)) rfl (show 1 < 6 by decide) dX10_saveFile_8) (JS.seq (pc1 := 20) (JS.is (pc1 := 19) (k := 2) (JX.call (pc1 := 16) decI_ok (JA.r (JX.getR (pc1 := 13) (c := 9) (k := 0) (i := 121) (JX.getR (pc1 := 10) (c := 10) (k := 10) (i := 64) (JX.al (k := 0) rfl dX10_saveFile_9) cl10 (by decide) rfl fk10_64 dX10_saveFile_10) cl9 (by decide) rfl fk10_121 dX10_saveFile_13) JA.nil) aX5_size (RunK.V (i := 157) (c := 5) (n := 0) cl5 rfl (CN nX5_size (by decide) (by decide)) gw788 gw587 gw588 dX10_saveFile_16) (by decide)) rfl (show 2 < 6 by decide) dX10_saveFile_19) (JS.seq (pc1 := 28) (JS.is (pc1 := 27) (k := 3) (JX.call (pc1 := 24) decI_ok (JA.r (JX.getR (pc1 := 21) (c := 10) (k := 1) (i := 21) (JX.al (k := 0) rfl dX10_saveFile_20) cl10 (by decide) rfl fk10_21 dX10_saveFile_21) JA.nil) aX1_count (RunK.V (i := 171) (c := 1) (n := 0) cl1 rfl (CN nX1_count (by decide) (by decide)) gw968 gw941 gw942 dX10_saveFile_24) (by decide)) rfl (show 3 < 6 by decide) dX10_saveFile_27) (JS.seq (pc1 := 42) (JS.is2 (pc1 := 40) (JX.call (pc1 := 37) decI_ok (JA.i (JX.ic (n := 1) rfl dX10_saveFile_28) (JA.i (JX.call (pc1 := 34) decI_ok (JA.r (JX.getR (pc1 := 30) (c := 10) (k := 0) (i := 12) (JX.al (k := 0) rfl dX10_saveFile_29) cl10 (by decide) rfl fk10_12 dX10_saveFile_30) (JA.i (JX.ic (n := 5) rfl dX10_saveFile_33) JA.nil)) aX6_number (RunK.V (i := 147) (c := 6) (n := 1) cl6 rfl (CN nX6_number (by decide) (by decide)) gw779 gw762 gw763 dX10_saveFile_34) (by decide)) JA.nil)) aJ9_max_7cf53 (RunK.S (i := 259) (n := 2) (CN nJ9_max_7cf53 (by decide) (by decide)) gw1168 gw1083 dX10_saveFile_37) (by decide)) (show 4 < 6 by decide) dX10_saveFile_40) (JS.seq (pc1 := 60) (JS.call (pc1 := 57) (JA.r (JX.getR (pc1 := 46) (c := 9) (k := 7) (i := 184) (JX.getR (pc1 := 43) (c := 10) (k := 10) (i := 64) (JX.al (k := 0) rfl dX10_saveFile_42) cl10 (by decide) rfl fk10_64 dX10_saveFile_43) cl9 (by decide) rfl fk10_184 dX10_saveFile_46) (JA.i (JX.il (k := 1) rfl dX10_saveFile_49) (JA.i (JX.getI (pc1 := 54) (c := 9) (k := 10) (i := 150) (JX.getR (pc1 := 51) (c := 10) (k := 10) (i := 64) (JX.al (k := 0) rfl dX10_saveFile_50) cl10 (by decide) rfl fk10_64 dX10_saveFile_51) cl9 (by decide) rfl fk10_150 dX10_saveFile_54) JA.nil))) aX5_put (RunK.V (i := 168) (c := 5) (n := 2) cl5 rfl (CN nX5_put (by decide) (by decide)) gw797 gw599 gw600 dX10_saveFile_57)) (JS.seq (pc1 := 78) (JS.call (pc1 := 75) (JA.r (JX.getR (pc1 := 64) (c := 9) (k := 8) (i := 118) (JX.getR (pc1 := 61) (c := 10) (k := 10) (i := 64) (JX.al (k := 0) rfl dX10_saveFile_60) cl10 (by decide) rfl fk10_64 dX10_saveFile_61) cl9 (by decide) rfl fk10_118 dX10_saveFile_64) (JA.i (JX.il (k := 1) rfl dX10_saveFile_67) (JA.i (JX.call (pc1 := 72) decI_ok (JA.r (JX.getR (pc1 := 69) (c := 10) (k := 6) (i := 49) (JX.al (k := 0) rfl dX10_saveFile_68) cl10 (by decide) rfl fk10_49 dX10_saveFile_69) JA.nil) aX5_size (RunK.V (i := 157) (c := 5) (n := 0) cl5 rfl (CN nX5_size (by decide) (by decide)) gw788 gw587 gw588 dX10_saveFile_72) (by decide)) JA.nil))) aX5_put (RunK.V (i := 168) (c := 5) (n := 2) cl5 rfl (CN nX5_put (by decide) (by decide)) gw797 gw599 gw600 dX10_saveFile_75)) (JS.seq (pc1 := 90) (JS.call (pc1 := 87) (JA.r (JX.getR (pc1 := 82) (c := 9) (k := 9) (i := 111) (JX.getR (pc1 := 79) (c := 10) (k := 10) (i := 64) (JX.al (k := 0) rfl dX10_saveFile_78) cl10 (by decide) rfl fk10_64 dX10_saveFile_79) cl9 (by decide) rfl fk10_111 dX10_saveFile_82) (JA.i (JX.il (k := 1) rfl dX10_saveFile_85) (JA.i (JX.il (k := 3) rfl dX10_saveFile_86) JA.nil))) aX5_put (RunK.V (i := 168) (c := 5) (n := 2) cl5 rfl (CN nX5_put (by decide) (by decide)) gw797 gw599 gw600 dX10_saveFile_87)) (JS.seq (pc1 := 128) (JS.sc (JS.seq (pc1 := 93) (JS.is2 (pc1 := 91) (JX.ic (n := 0) rfl dX10_saveFile_90) (show 5 < 6 by decide) dX10_saveFile_91) (JS.while (l := 128) (lb := 128) (pc1 := 99) (pc2 := 125) (pc3 := 128) (CJ.lt_f (tgt := 128) (pc1 := 95) (pc2 := 96) (JX.il2 dX10_saveFile_93) (JX.il (k := 3) rfl dX10_saveFile_95) dX10_saveFile_96 rfl) (JS.forb (pc1 := 118) (JS.call (pc1 := 115) (JA.r (JX.getR (pc1 := 100) (c := 10) (k := 3) (i := 35) (JX.al (k := 0) rfl dX10_saveFile_99) cl10 (by decide) rfl fk10_35 dX10_saveFile_100) (JA.r (JX.al (k := 0) rfl dX10_saveFile_103) (JA.i (JX.il2 dX10_saveFile_104) (JA.i (JX.call (pc1 := 112) decI_ok (JA.i (JX.iadd (pc1 := 108) (pc2 := 110) (JX.il2 dX10_saveFile_106) (JX.il2 dX10_saveFile_108) dX10_saveFile_110) (JA.i (JX.il (k := 3) rfl dX10_saveFile_111) JA.nil)) aJ9_min_7cf53 (RunK.S (i := 226) (n := 2) (CN nJ9_min_7cf53 (by decide) (by decide)) gw1167 gw135 dX10_saveFile_112) (by decide)) JA.nil)))) aX7_saveSegment (RunK.V (i := 262) (c := 7) (n := 3) cl7 rfl (CN nX7_saveSegment (by decide) (by decide)) gw1169 gw1170 gw1171 dX10_saveFile_115)) (JS.is2 (pc1 := 123) (JX.iadd (pc1 := 120) (pc2 := 122) (JX.il2 dX10_saveFile_118) (JX.il2 dX10_saveFile_120) dX10_saveFile_122) (show 5 < 6 by decide) dX10_saveFile_123)) dX10_saveFile_125 rfl (Or.inl rfl) (Or.inl rfl)))) (JS.seq (pc1 := 142) (JS.pI (pc1 := 132) (pc2 := 139) (c := 9) (k := 13) (i := 231) (JX.getR (pc1 := 129) (c := 10) (k := 10) (i := 64) (JX.al (k := 0) rfl dX10_saveFile_128) cl10 (by decide) rfl fk10_64 dX10_saveFile_129) (JX.call (pc1 := 136) decI_ok (JA.r (JX.getR (pc1 := 133) (c := 10) (k := 6) (i := 49) (JX.al (k := 0) rfl dX10_saveFile_132) cl10 (by decide) rfl fk10_49 dX10_saveFile_133) JA.nil) aX5_size (RunK.V (i := 157) (c := 5) (n := 0) cl5 rfl (CN nX5_size (by decide) (by decide)) gw788 gw587 gw588 dX10_saveFile_136) (by decide)) cl9 (by decide) rfl fk10_231 (Or.inl rfl) dX10_saveFile_139) (JS.seq (pc1 := 156) (JS.pI (pc1 := 146) (pc2 := 153) (c := 9) (k := 14) (i := 241) (JX.getR (pc1 := 143) (c := 10) (k := 10) (i := 64) (JX.al (k := 0) rfl dX10_saveFile_142) cl10 (by decide) rfl fk10_64 dX10_saveFile_143) (JX.call (pc1 := 150) decI_ok (JA.r (JX.getR (pc1 := 147) (c := 10) (k := 7) (i := 52) (JX.al (k := 0) rfl dX10_saveFile_146) cl10 (by decide) rfl fk10_52 dX10_saveFile_147) JA.nil) aX5_size (RunK.V (i := 157) (c := 5) (n := 0) cl5 rfl (CN nX5_size (by decide) (by decide)) gw788 gw587 gw588 dX10_saveFile_150) (by decide)) cl9 (by decide) rfl fk10_241 (Or.inl rfl) dX10_saveFile_153) (JS.seq (pc1 := 168) (JS.is2 (pc1 := 166) (JX.irem (pc1 := 163) (pc2 := 165) (JX.getI (pc1 := 160) (c := 9) (k := 12) (i := 266) (JX.getR (pc1 := 157) (c := 10) (k := 10) (i := 64) (JX.al (k := 0) rfl dX10_saveFile_156) cl10 (by decide) rfl fk10_64 dX10_saveFile_157) cl9 (by decide) rfl fk10_266 dX10_saveFile_160) (JX.bp (n := 64) kb64 dX10_saveFile_163) dX10_saveFile_165) (show 5 < 6 by decide) dX10_saveFile_166) (JS.seq (pc1 := 184) (JS.call (pc1 := 181) (JA.r (JX.getR (pc1 := 169) (c := 10) (k := 16) (i := 85) (JX.al (k := 0) rfl dX10_saveFile_168) cl10 (by decide) rfl fk10_85 dX10_saveFile_169) (JA.i (JX.il2 dX10_saveFile_172) (JA.i (JX.getI (pc1 := 178) (c := 9) (k := 10) (i := 150) (JX.getR (pc1 := 175) (c := 10) (k := 10) (i := 64) (JX.al (k := 0) rfl dX10_saveFile_174) cl10 (by decide) rfl fk10_64 dX10_saveFile_175) cl9 (by decide) rfl fk10_150 dX10_saveFile_178) JA.nil))) aX5_put (RunK.V (i := 168) (c := 5) (n := 2) cl5 rfl (CN nX5_put (by decide) (by decide)) gw797 gw599 gw600 dX10_saveFile_181)) (JS.seq (pc1 := 194) (JS.call (pc1 := 191) (JA.r (JX.getR (pc1 := 185) (c := 10) (k := 17) (i := 88) (JX.al (k := 0) rfl dX10_saveFile_184) cl10 (by decide) rfl fk10_88 dX10_saveFile_185) (JA.i (JX.il2 dX10_saveFile_188) (JA.i (JX.il (k := 3) rfl dX10_saveFile_190) JA.nil))) aX5_put (RunK.V (i := 168) (c := 5) (n := 2) cl5 rfl (CN nX5_put (by decide) (by decide)) gw797 gw599 gw600 dX10_saveFile_191)) (JS.seq (pc1 := 215) (JS.call (pc1 := 212) (JA.r (JX.getR (pc1 := 195) (c := 10) (k := 18) (i := 91) (JX.al (k := 0) rfl dX10_saveFile_194) cl10 (by decide) rfl fk10_91 dX10_saveFile_195) (JA.i (JX.il2 dX10_saveFile_198) (JA.i (JX.isub (pc1 := 210) (pc2 := 211) (JX.call (pc1 := 207) decI_ok (JA.r (JX.getR (pc1 := 204) (c := 9) (k := 0) (i := 121) (JX.getR (pc1 := 201) (c := 10) (k := 10) (i := 64) (JX.al (k := 0) rfl dX10_saveFile_200) cl10 (by decide) rfl fk10_64 dX10_saveFile_201) cl9 (by decide) rfl fk10_121 dX10_saveFile_204) JA.nil) aX5_size (RunK.V (i := 157) (c := 5) (n := 0) cl5 rfl (CN nX5_size (by decide) (by decide)) gw788 gw587 gw588 dX10_saveFile_207) (by decide)) (JX.il (k := 2) rfl dX10_saveFile_210) dX10_saveFile_211) JA.nil))) aX5_put (RunK.V (i := 168) (c := 5) (n := 2) cl5 rfl (CN nX5_put (by decide) (by decide)) gw797 gw599 gw600 dX10_saveFile_212)) (JS.seq (pc1 := 228) (JS.upA (pc1 := 219) (pc2 := 224) (c := 9) (k := 12) (i := 266) (JX.getR (pc1 := 216) (c := 10) (k := 10) (i := 64) (JX.al (k := 0) rfl dX10_saveFile_215) cl10 (by decide) rfl fk10_64 dX10_saveFile_216) dX10_saveFile_219 cl9 (by decide) rfl fk10_266 (Or.inl rfl) dX10_saveFile_220 (JX.ic (n := 1) rfl dX10_saveFile_223) dX10_saveFile_224 dX10_saveFile_225) (JS.retI (pc1 := 229) (JX.il (k := 1) rfl dX10_saveFile_228) dX10_saveFile_229)))))))))))))))))
def mX10_saveFile : MS := runM 6 (some (.int)) bX10_saveFile
theorem aX10_saveFile : MA yX10_saveFile cX10_saveFile 6 (some (.int)) 7 mX10_saveFile := MA.of (plainFor_of_name (by decide)) jX10_saveFile
theorem eX10_saveFile (a0 : Nat) (h : AH) : mX10_saveFile [.ref a0] h = (bX10_saveFile [.val (.ref a0), .unset, .unset, .unset, .unset, .unset] h).bind (finM (some (.int))) := rfl
/-! PieceStore.save -/
theorem dX11_save_0 : decode cX11_save 0 = .ok (.aload_n 0, 1) := by decide +kernel
theorem dX11_save_1 : decode cX11_save 1 = .ok (.invokevirtual 212, 3) := by decide +kernel
theorem dX11_save_4 : decode cX11_save 4 = .ok (.istore_n 1, 1) := by decide +kernel
theorem dX11_save_5 : decode cX11_save 5 = .ok (.iload_n 1, 1) := by decide +kernel
theorem dX11_save_6 : decode cX11_save 6 = .ok (.ifCond .eq 10, 3) := by decide +kernel
theorem dX11_save_9 : decode cX11_save 9 = .ok (.aload_n 0, 1) := by decide +kernel
theorem dX11_save_10 : decode cX11_save 10 = .ok (.getfield 29, 3) := by decide +kernel
theorem dX11_save_13 : decode cX11_save 13 = .ok (.invokevirtual 216, 3) := by decide +kernel
theorem dX11_save_16 : decode cX11_save 16 = .ok (.iload_n 1, 1) := by decide +kernel
theorem dX11_save_17 : decode cX11_save 17 = .ok (.ifCond .eq 13, 3) := by decide +kernel
theorem dX11_save_20 : decode cX11_save 20 = .ok (.aload_n 0, 1) := by decide +kernel
theorem dX11_save_21 : decode cX11_save 21 = .ok (.getfield 29, 3) := by decide +kernel
theorem dX11_save_24 : decode cX11_save 24 = .ok (.invokevirtual 280, 3) := by decide +kernel
theorem dX11_save_27 : decode cX11_save 27 = .ok (.ifCond .ne 9, 3) := by decide +kernel
theorem dX11_save_30 : decode cX11_save 30 = .ok (.aload_n 0, 1) := by decide +kernel
theorem dX11_save_31 : decode cX11_save 31 = .ok (.iconst 3, 1) := by decide +kernel
theorem dX11_save_32 : decode cX11_save 32 = .ok (.invokevirtual 73, 3) := by decide +kernel
theorem dX11_save_35 : decode cX11_save 35 = .ok (.ireturn, 1) := by decide +kernel
theorem dX11_save_36 : decode cX11_save 36 = .ok (.aload_n 0, 1) := by decide +kernel
theorem dX11_save_37 : decode cX11_save 37 = .ok (.getfield 29, 3) := by decide +kernel
theorem dX11_save_40 : decode cX11_save 40 = .ok (.invokevirtual 283, 3) := by decide +kernel
theorem dX11_save_43 : decode cX11_save 43 = .ok (.ireturn, 1) := by decide +kernel
abbrev MX11_save : MI := (RX11, cX11_save, 2, 8, false)
def bX11_save : St := (seqS (lsI 1 (calX decI (ckV 11 0) mX11_takeFile (agC va_rf (lvR 0) agN))) (seqS (ifS (ne0 (lvI 1)) (calS (ckV 10 0) mX10_cutFile (agC va_rf (getR 11 3 (lvR 0)) agN))) (seqS (ifS (orX (notX (ne0 (lvI 1))) (notX (ne0 (calX decI (ckV 10 0) mX10_canSave (agC va_rf (getR 11 3 (lvR 0)) agN))))) (retI (calX decI (ckV 11 1) mX11_refuse (agC va_rf (lvR 0) (agC Value.int (ciI (iI 3)) agN))))) (retI (calX decI (ckV 10 0) mX10_saveFile (agC va_rf (getR 11 3 (lvR 0)) agN))))))
theorem jX11_save : JS MX11_save 0 0 0 44 [] bX11_save :=
  (JS.seq (pc1 := 5) (JS.is (pc1 := 4) (k := 1) (JX.call (pc1 := 1) decI_ok (JA.r (JX.al (k := 0) rfl dX11_save_0) JA.nil) aX11_takeFile (RunK.V (i := 212) (c := 11) (n := 0) cl11 rfl (CN nX11_takeFile (by decide) (by decide)) gw911 gw913 gs33 dX11_save_1) (by decide)) rfl (show 1 < 2 by decide) dX11_save_4) (JS.seq (pc1 := 16) (JS.iff (l := 16) (pc1 := 9) (CJ.ne0_f (tgt := 16) (pc1 := 6) (JX.il (k := 1) rfl dX11_save_5) dX11_save_6 rfl) (JS.call (pc1 := 13) (JA.r (JX.getR (pc1 := 10) (c := 11) (k := 3) (i := 29) (JX.al (k := 0) rfl dX11_save_9) cl11 (by decide) rfl fk11_29 dX11_save_10) JA.nil) aX10_cutFile (RunK.V (i := 216) (c := 10) (n := 0) cl10 rfl (CN nX10_cutFile (by decide) (by decide)) gw921 gw922 gw923 dX11_save_13)) (Or.inl rfl)) (JS.seq (pc1 := 36) (JS.iff (l := 36) (pc1 := 30) (CJ.or_f (l := 30) (pc1 := 20) (CJ.not_t (CJ.ne0_f (tgt := 30) (pc1 := 17) (JX.il (k := 1) rfl dX11_save_16) dX11_save_17 rfl)) (CJ.not_f (CJ.ne0_t (tgt := 36) (pc1 := 27) (JX.call (pc1 := 24) decI_ok (JA.r (JX.getR (pc1 := 21) (c := 11) (k := 3) (i := 29) (JX.al (k := 0) rfl dX11_save_20) cl11 (by decide) rfl fk11_29 dX11_save_21) JA.nil) aX10_canSave (RunK.V (i := 280) (c := 10) (n := 0) cl10 rfl (CN nX10_canSave (by decide) (by decide)) gw1145 gw1146 gw1147 dX11_save_24) (by decide)) dX11_save_27 rfl)) (Or.inl rfl)) (JS.retI (pc1 := 35) (JX.call (pc1 := 32) decI_ok (JA.r (JX.al (k := 0) rfl dX11_save_30) (JA.i (JX.ic (n := 3) rfl dX11_save_31) JA.nil)) aX11_refuse (RunK.V (i := 73) (c := 11) (n := 1) cl11 rfl (CN nX11_refuse (by decide) (by decide)) gw590 gw592 gs1 dX11_save_32) (by decide)) dX11_save_35) (Or.inl rfl)) (JS.retI (pc1 := 43) (JX.call (pc1 := 40) decI_ok (JA.r (JX.getR (pc1 := 37) (c := 11) (k := 3) (i := 29) (JX.al (k := 0) rfl dX11_save_36) cl11 (by decide) rfl fk11_29 dX11_save_37) JA.nil) aX10_saveFile (RunK.V (i := 283) (c := 10) (n := 0) cl10 rfl (CN nX10_saveFile (by decide) (by decide)) gw1154 gw1155 gw1156 dX11_save_40) (by decide)) dX11_save_43))))
def mX11_save : MS := runM 2 (some (.int)) bX11_save
theorem aX11_save : MA yX11_save cX11_save 2 (some (.int)) 8 mX11_save := MA.of (plainFor_of_name (by decide)) jX11_save
theorem eX11_save (a0 : Nat) (h : AH) : mX11_save [.ref a0] h = (bX11_save [.val (.ref a0), .unset] h).bind (finM (some (.int))) := rfl
/-! State.dropBackup -/
theorem dX9_dropBackup_0 : decode cX9_dropBackup 0 = .ok (.aload_n 0, 1) := by decide +kernel
theorem dX9_dropBackup_1 : decode cX9_dropBackup 1 = .ok (.getfield 42, 3) := by decide +kernel
theorem dX9_dropBackup_4 : decode cX9_dropBackup 4 = .ok (.iload_n 1, 1) := by decide +kernel
theorem dX9_dropBackup_5 : decode cX9_dropBackup 5 = .ok (.iconst 0, 1) := by decide +kernel
theorem dX9_dropBackup_6 : decode cX9_dropBackup 6 = .ok (.invokevirtual 91, 3) := by decide +kernel
theorem dX9_dropBackup_9 : decode cX9_dropBackup 9 = .ok (.return_, 1) := by decide +kernel
abbrev MX9_dropBackup : MI := (RX9, cX9_dropBackup, 2, 2, false)
def bX9_dropBackup : St := (seqS (calS (ckV 5 2) mX5_put (agC va_rf (getR 9 9 (lvR 0)) (agC Value.int (lvI 1) (agC Value.int (ciI (iI 0)) agN)))) retV)
theorem jX9_dropBackup : JS MX9_dropBackup 0 0 0 10 [] bX9_dropBackup :=
  (JS.seq (pc1 := 9) (JS.call (pc1 := 6) (JA.r (JX.getR (pc1 := 1) (c := 9) (k := 9) (i := 42) (JX.al (k := 0) rfl dX9_dropBackup_0) cl9 (by decide) rfl fk9_42 dX9_dropBackup_1) (JA.i (JX.il (k := 1) rfl dX9_dropBackup_4) (JA.i (JX.ic (n := 0) rfl dX9_dropBackup_5) JA.nil))) aX5_put (RunK.V (i := 91) (c := 5) (n := 2) cl5 rfl (CN nX5_put (by decide) (by decide)) gw1071 gw599 gw600 dX9_dropBackup_6)) (JS.retV dX9_dropBackup_9))
def mX9_dropBackup : MS := runM 2 none bX9_dropBackup
theorem aX9_dropBackup : MA yX9_dropBackup cX9_dropBackup 2 none 2 mX9_dropBackup := MA.of (plainFor_of_name (by decide)) jX9_dropBackup
theorem eX9_dropBackup (a0 : Nat) (a1 : Int32) (h : AH) : mX9_dropBackup [.ref a0, .int a1] h = (bX9_dropBackup [.val (.ref a0), .val (.int a1)] h).bind (finM none) := rfl
/-! PieceStore.forget -/
theorem dX11_forget_0 : decode cX11_forget 0 = .ok (.aload_n 0, 1) := by decide +kernel
theorem dX11_forget_1 : decode cX11_forget 1 = .ok (.getfield 29, 3) := by decide +kernel
theorem dX11_forget_4 : decode cX11_forget 4 = .ok (.iload_n 1, 1) := by decide +kernel
theorem dX11_forget_5 : decode cX11_forget 5 = .ok (.invokevirtual 154, 3) := by decide +kernel
theorem dX11_forget_8 : decode cX11_forget 8 = .ok (.ifCond .ne 11, 3) := by decide +kernel
theorem dX11_forget_11 : decode cX11_forget 11 = .ok (.aload_n 0, 1) := by decide +kernel
theorem dX11_forget_12 : decode cX11_forget 12 = .ok (.iconst 3, 1) := by decide +kernel
theorem dX11_forget_13 : decode cX11_forget 13 = .ok (.invokevirtual 73, 3) := by decide +kernel
theorem dX11_forget_16 : decode cX11_forget 16 = .ok (.pop, 1) := by decide +kernel
theorem dX11_forget_17 : decode cX11_forget 17 = .ok (.iconst 0, 1) := by decide +kernel
theorem dX11_forget_18 : decode cX11_forget 18 = .ok (.ireturn, 1) := by decide +kernel
theorem dX11_forget_19 : decode cX11_forget 19 = .ok (.aload_n 0, 1) := by decide +kernel
theorem dX11_forget_20 : decode cX11_forget 20 = .ok (.getfield 29, 3) := by decide +kernel
theorem dX11_forget_23 : decode cX11_forget 23 = .ok (.invokevirtual 286, 3) := by decide +kernel
theorem dX11_forget_26 : decode cX11_forget 26 = .ok (.aload_n 0, 1) := by decide +kernel
theorem dX11_forget_27 : decode cX11_forget 27 = .ok (.getfield 29, 3) := by decide +kernel
theorem dX11_forget_30 : decode cX11_forget 30 = .ok (.getfield 112, 3) := by decide +kernel
theorem dX11_forget_33 : decode cX11_forget 33 = .ok (.iload_n 1, 1) := by decide +kernel
theorem dX11_forget_34 : decode cX11_forget 34 = .ok (.invokevirtual 289, 3) := by decide +kernel
theorem dX11_forget_37 : decode cX11_forget 37 = .ok (.iconst 1, 1) := by decide +kernel
theorem dX11_forget_38 : decode cX11_forget 38 = .ok (.ireturn, 1) := by decide +kernel
abbrev MX11_forget : MI := (RX11, cX11_forget, 2, 6, false)
def bX11_forget : St := (seqS (ifS (notX (ne0 (calX decI (ckV 10 1) mX10_hasBackup (agC va_rf (getR 11 3 (lvR 0)) (agC Value.int (lvI 1) agN))))) (seqS (exS (calX decI (ckV 11 1) mX11_refuse (agC va_rf (lvR 0) (agC Value.int (ciI (iI 3)) agN)))) (retI (ciI (iI 0))))) (seqS (calS (ckV 10 0) mX10_remember (agC va_rf (getR 11 3 (lvR 0)) agN)) (seqS (calS (ckV 9 1) mX9_dropBackup (agC va_rf (getR 10 10 (getR 11 3 (lvR 0))) (agC Value.int (lvI 1) agN))) (retI (ciI (iI 1))))))
theorem jX11_forget : JS MX11_forget 0 0 0 39 [] bX11_forget :=
  (JS.seq (pc1 := 19) (JS.iff (l := 19) (pc1 := 11) (CJ.not_f (CJ.ne0_t (tgt := 19) (pc1 := 8) (JX.call (pc1 := 5) decI_ok (JA.r (JX.getR (pc1 := 1) (c := 11) (k := 3) (i := 29) (JX.al (k := 0) rfl dX11_forget_0) cl11 (by decide) rfl fk11_29 dX11_forget_1) (JA.i (JX.il (k := 1) rfl dX11_forget_4) JA.nil)) aX10_hasBackup (RunK.V (i := 154) (c := 10) (n := 1) cl10 rfl (CN nX10_hasBackup (by decide) (by decide)) gw808 gw771 gw772 dX11_forget_5) (by decide)) dX11_forget_8 rfl)) (JS.seq (pc1 := 17) (JS.pop (pc1 := 16) (JX.call (pc1 := 13) decI_ok (JA.r (JX.al (k := 0) rfl dX11_forget_11) (JA.i (JX.ic (n := 3) rfl dX11_forget_12) JA.nil)) aX11_refuse (RunK.V (i := 73) (c := 11) (n := 1) cl11 rfl (CN nX11_refuse (by decide) (by decide)) gw590 gw592 gs1 dX11_forget_13) (by decide)) (fun _ => rfl) dX11_forget_16) (JS.retI (pc1 := 18) (JX.ic (n := 0) rfl dX11_forget_17) dX11_forget_18)) (Or.inl rfl)) (JS.seq (pc1 := 26) (JS.call (pc1 := 23) (JA.r (JX.getR (pc1 := 20) (c := 11) (k := 3) (i := 29) (JX.al (k := 0) rfl dX11_forget_19) cl11 (by decide) rfl fk11_29 dX11_forget_20) JA.nil) aX10_remember (RunK.V (i := 286) (c := 10) (n := 0) cl10 rfl (CN nX10_remember (by decide) (by decide)) gw1232 gw1159 gw1160 dX11_forget_23)) (JS.seq (pc1 := 37) (JS.call (pc1 := 34) (JA.r (JX.getR (pc1 := 30) (c := 10) (k := 10) (i := 112) (JX.getR (pc1 := 27) (c := 11) (k := 3) (i := 29) (JX.al (k := 0) rfl dX11_forget_26) cl11 (by decide) rfl fk11_29 dX11_forget_27) cl10 (by decide) rfl fk11_112 dX11_forget_30) (JA.i (JX.il (k := 1) rfl dX11_forget_33) JA.nil)) aX9_dropBackup (RunK.V (i := 289) (c := 9) (n := 1) cl9 rfl (CN nX9_dropBackup (by decide) (by decide)) gw1233 gw1234 gw1235 dX11_forget_34)) (JS.retI (pc1 := 38) (JX.ic (n := 1) rfl dX11_forget_37) dX11_forget_38))))
def mX11_forget : MS := runM 2 (some (.boolean)) bX11_forget
theorem aX11_forget : MA yX11_forget cX11_forget 2 (some (.boolean)) 6 mX11_forget := MA.of (plainFor_of_name (by decide)) jX11_forget
theorem eX11_forget (a0 : Nat) (a1 : Int32) (h : AH) : mX11_forget [.ref a0, .int a1] h = (bX11_forget [.val (.ref a0), .val (.int a1)] h).bind (finM (some (.boolean))) := rfl
/-! Vault.passDays -/
theorem dX10_passDays_0 : decode cX10_passDays 0 = .ok (.iconst 0, 1) := by decide +kernel
theorem dX10_passDays_1 : decode cX10_passDays 1 = .ok (.istore_n 2, 1) := by decide +kernel
theorem dX10_passDays_2 : decode cX10_passDays 2 = .ok (.iconst 0, 1) := by decide +kernel
theorem dX10_passDays_3 : decode cX10_passDays 3 = .ok (.istore_n 3, 1) := by decide +kernel
theorem dX10_passDays_4 : decode cX10_passDays 4 = .ok (.iload_n 3, 1) := by decide +kernel
theorem dX10_passDays_5 : decode cX10_passDays 5 = .ok (.bipush 12, 2) := by decide +kernel
theorem dX10_passDays_7 : decode cX10_passDays 7 = .ok (.if_icmp .ge 37, 3) := by decide +kernel
theorem dX10_passDays_10 : decode cX10_passDays 10 = .ok (.aload_n 0, 1) := by decide +kernel
theorem dX10_passDays_11 : decode cX10_passDays 11 = .ok (.iload_n 3, 1) := by decide +kernel
theorem dX10_passDays_12 : decode cX10_passDays 12 = .ok (.invokevirtual 187, 3) := by decide +kernel
theorem dX10_passDays_15 : decode cX10_passDays 15 = .ok (.ifCond .eq 23, 3) := by decide +kernel
theorem dX10_passDays_18 : decode cX10_passDays 18 = .ok (.aload_n 0, 1) := by decide +kernel
theorem dX10_passDays_19 : decode cX10_passDays 19 = .ok (.iload_n 3, 1) := by decide +kernel
theorem dX10_passDays_20 : decode cX10_passDays 20 = .ok (.iload_n 1, 1) := by decide +kernel
theorem dX10_passDays_21 : decode cX10_passDays 21 = .ok (.invokevirtual 191, 3) := by decide +kernel
theorem dX10_passDays_24 : decode cX10_passDays 24 = .ok (.ifCond .eq 14, 3) := by decide +kernel
theorem dX10_passDays_27 : decode cX10_passDays 27 = .ok (.aload_n 0, 1) := by decide +kernel
theorem dX10_passDays_28 : decode cX10_passDays 28 = .ok (.getfield 64, 3) := by decide +kernel
theorem dX10_passDays_31 : decode cX10_passDays 31 = .ok (.iload_n 3, 1) := by decide +kernel
theorem dX10_passDays_32 : decode cX10_passDays 32 = .ok (.invokevirtual 276, 3) := by decide +kernel
theorem dX10_passDays_35 : decode cX10_passDays 35 = .ok (.iinc 2 1, 3) := by decide +kernel
theorem dX10_passDays_38 : decode cX10_passDays 38 = .ok (.iinc 3 1, 3) := by decide +kernel
theorem dX10_passDays_41 : decode cX10_passDays 41 = .ok (.goto (-37), 3) := by decide +kernel
theorem dX10_passDays_44 : decode cX10_passDays 44 = .ok (.aload_n 0, 1) := by decide +kernel
theorem dX10_passDays_45 : decode cX10_passDays 45 = .ok (.getfield 64, 3) := by decide +kernel
theorem dX10_passDays_48 : decode cX10_passDays 48 = .ok (.dup, 1) := by decide +kernel
theorem dX10_passDays_49 : decode cX10_passDays 49 = .ok (.getfield 150, 3) := by decide +kernel
theorem dX10_passDays_52 : decode cX10_passDays 52 = .ok (.iload_n 1, 1) := by decide +kernel
theorem dX10_passDays_53 : decode cX10_passDays 53 = .ok (.iadd, 1) := by decide +kernel
theorem dX10_passDays_54 : decode cX10_passDays 54 = .ok (.putfield 150, 3) := by decide +kernel
theorem dX10_passDays_57 : decode cX10_passDays 57 = .ok (.iload_n 2, 1) := by decide +kernel
theorem dX10_passDays_58 : decode cX10_passDays 58 = .ok (.ireturn, 1) := by decide +kernel
abbrev MX10_passDays : MI := (RX10, cX10_passDays, 4, 4, false)
def lcX10_passDays_1 : Ex Bool := (ltI (lvI 3) (ciI (iI 12)))
def lbX10_passDays_1 : St := (forB (ifS (andX (ne0 (calX decI (ckV 10 1) mX10_hasBackup (agC va_rf (lvR 0) (agC Value.int (lvI 3) agN)))) (ne0 (calX decI (ckV 10 2) mX10_isGone (agC va_rf (lvR 0) (agC Value.int (lvI 3) (agC Value.int (lvI 1) agN)))))) (seqS (calS (ckV 9 1) mX9_dropBackup (agC va_rf (getR 10 10 (lvR 0)) (agC Value.int (lvI 3) agN))) (incI 2 (iI 1)))) (incI 3 (iI 1)))
def bX10_passDays : St := (seqS (lsI 2 (ciI (iI 0))) (seqS (scS 3 (seqS (lsI 3 (ciI (iI 0))) (whileS lcX10_passDays_1 lbX10_passDays_1))) (seqS (updI 9 10 (fun x y => x + y) (getR 10 10 (lvR 0)) (lvI 1)) (retI (lvI 2)))))
theorem jX10_passDays : JS MX10_passDays 0 0 0 59 [] bX10_passDays :=
  (JS.seq (pc1 := 2) (JS.is (pc1 := 1) (k := 2) (JX.ic (n := 0) rfl dX10_passDays_0) rfl (show 2 < 4 by decide) dX10_passDays_1) (JS.seq (pc1 := 44) (JS.sc (JS.seq (pc1 := 4) (JS.is (pc1 := 3) (k := 3) (JX.ic (n := 0) rfl dX10_passDays_2) rfl (show 3 < 4 by decide) dX10_passDays_3) (JS.while (l := 44) (lb := 44) (pc1 := 10) (pc2 := 41) (pc3 := 44) (CJ.lt_f (tgt := 44) (pc1 := 5) (pc2 := 7) (JX.il (k := 3) rfl dX10_passDays_4) (JX.bp (n := 12) kb12 dX10_passDays_5) dX10_passDays_7 rfl) (JS.forb (pc1 := 38) (JS.iff (l := 38) (pc1 := 27) (CJ.and_f (pc1 := 18) (CJ.ne0_f (tgt := 38) (pc1 := 15) (JX.call (pc1 := 12) decI_ok (JA.r (JX.al (k := 0) rfl dX10_passDays_10) (JA.i (JX.il (k := 3) rfl dX10_passDays_11) JA.nil)) aX10_hasBackup (RunK.V (i := 187) (c := 10) (n := 1) cl10 rfl (CN nX10_hasBackup (by decide) (by decide)) gw770 gw771 gw772 dX10_passDays_12) (by decide)) dX10_passDays_15 rfl) (CJ.ne0_f (tgt := 38) (pc1 := 24) (JX.call (pc1 := 21) decI_ok (JA.r (JX.al (k := 0) rfl dX10_passDays_18) (JA.i (JX.il (k := 3) rfl dX10_passDays_19) (JA.i (JX.il (k := 1) rfl dX10_passDays_20) JA.nil))) aX10_isGone (RunK.V (i := 191) (c := 10) (n := 2) cl10 rfl (CN nX10_isGone (by decide) (by decide)) gw775 gw776 gw777 dX10_passDays_21) (by decide)) dX10_passDays_24 rfl)) (JS.seq (pc1 := 35) (JS.call (pc1 := 32) (JA.r (JX.getR (pc1 := 28) (c := 10) (k := 10) (i := 64) (JX.al (k := 0) rfl dX10_passDays_27) cl10 (by decide) rfl fk10_64 dX10_passDays_28) (JA.i (JX.il (k := 3) rfl dX10_passDays_31) JA.nil)) aX9_dropBackup (RunK.V (i := 276) (c := 9) (n := 1) cl9 rfl (CN nX9_dropBackup (by decide) (by decide)) gw1245 gw1234 gw1235 dX10_passDays_32)) (JS.inc (n := 1) rfl (show 2 < 4 by decide) dX10_passDays_35)) (Or.inl rfl)) (JS.inc (n := 1) rfl (show 3 < 4 by decide) dX10_passDays_38)) dX10_passDays_41 rfl (Or.inl rfl) (Or.inl rfl)))) (JS.seq (pc1 := 57) (JS.upA (pc1 := 48) (pc2 := 53) (c := 9) (k := 10) (i := 150) (JX.getR (pc1 := 45) (c := 10) (k := 10) (i := 64) (JX.al (k := 0) rfl dX10_passDays_44) cl10 (by decide) rfl fk10_64 dX10_passDays_45) dX10_passDays_48 cl9 (by decide) rfl fk10_150 (Or.inl rfl) dX10_passDays_49 (JX.il (k := 1) rfl dX10_passDays_52) dX10_passDays_53 dX10_passDays_54) (JS.retI (pc1 := 58) (JX.il (k := 2) rfl dX10_passDays_57) dX10_passDays_58))))
def mX10_passDays : MS := runM 4 (some (.int)) bX10_passDays
theorem aX10_passDays : MA yX10_passDays cX10_passDays 4 (some (.int)) 4 mX10_passDays := MA.of (plainFor_of_name (by decide)) jX10_passDays
theorem eX10_passDays (a0 : Nat) (a1 : Int32) (h : AH) : mX10_passDays [.ref a0, .int a1] h = (bX10_passDays [.val (.ref a0), .val (.int a1), .unset, .unset] h).bind (finM (some (.int))) := rfl
/-! PieceStore.days -/
theorem dX11_days_0 : decode cX11_days 0 = .ok (.iload_n 1, 1) := by decide +kernel
theorem dX11_days_1 : decode cX11_days 1 = .ok (.iconst 1, 1) := by decide +kernel
theorem dX11_days_2 : decode cX11_days 2 = .ok (.if_icmp .lt 11, 3) := by decide +kernel
theorem dX11_days_5 : decode cX11_days 5 = .ok (.aload_n 0, 1) := by decide +kernel
theorem dX11_days_6 : decode cX11_days 6 = .ok (.iload_n 1, 1) := by decide +kernel
theorem dX11_days_7 : decode cX11_days 7 = .ok (.invokevirtual 243, 3) := by decide +kernel
theorem dX11_days_10 : decode cX11_days 10 = .ok (.ifCond .ne 9, 3) := by decide +kernel
theorem dX11_days_13 : decode cX11_days 13 = .ok (.aload_n 0, 1) := by decide +kernel
theorem dX11_days_14 : decode cX11_days 14 = .ok (.iconst 2, 1) := by decide +kernel
theorem dX11_days_15 : decode cX11_days 15 = .ok (.invokevirtual 73, 3) := by decide +kernel
theorem dX11_days_18 : decode cX11_days 18 = .ok (.ireturn, 1) := by decide +kernel
theorem dX11_days_19 : decode cX11_days 19 = .ok (.aload_n 0, 1) := by decide +kernel
theorem dX11_days_20 : decode cX11_days 20 = .ok (.getfield 29, 3) := by decide +kernel
theorem dX11_days_23 : decode cX11_days 23 = .ok (.invokevirtual 286, 3) := by decide +kernel
theorem dX11_days_26 : decode cX11_days 26 = .ok (.aload_n 0, 1) := by decide +kernel
theorem dX11_days_27 : decode cX11_days 27 = .ok (.getfield 29, 3) := by decide +kernel
theorem dX11_days_30 : decode cX11_days 30 = .ok (.iload_n 1, 1) := by decide +kernel
theorem dX11_days_31 : decode cX11_days 31 = .ok (.invokevirtual 292, 3) := by decide +kernel
theorem dX11_days_34 : decode cX11_days 34 = .ok (.ireturn, 1) := by decide +kernel
abbrev MX11_days : MI := (RX11, cX11_days, 2, 6, false)
def bX11_days : St := (seqS (ifS (orX (ltI (lvI 1) (ciI (iI 1))) (notX (ne0 (calX decI (ckV 11 1) mX11_canPass (agC va_rf (lvR 0) (agC Value.int (lvI 1) agN)))))) (retI (calX decI (ckV 11 1) mX11_refuse (agC va_rf (lvR 0) (agC Value.int (ciI (iI 2)) agN))))) (seqS (calS (ckV 10 0) mX10_remember (agC va_rf (getR 11 3 (lvR 0)) agN)) (retI (calX decI (ckV 10 1) mX10_passDays (agC va_rf (getR 11 3 (lvR 0)) (agC Value.int (lvI 1) agN))))))
theorem jX11_days : JS MX11_days 0 0 0 35 [] bX11_days :=
  (JS.seq (pc1 := 19) (JS.iff (l := 19) (pc1 := 13) (CJ.or_f (l := 13) (pc1 := 5) (CJ.lt_t (tgt := 13) (pc1 := 1) (pc2 := 2) (JX.il (k := 1) rfl dX11_days_0) (JX.ic (n := 1) rfl dX11_days_1) dX11_days_2 rfl) (CJ.not_f (CJ.ne0_t (tgt := 19) (pc1 := 10) (JX.call (pc1 := 7) decI_ok (JA.r (JX.al (k := 0) rfl dX11_days_5) (JA.i (JX.il (k := 1) rfl dX11_days_6) JA.nil)) aX11_canPass (RunK.V (i := 243) (c := 11) (n := 1) cl11 rfl (CN nX11_canPass (by decide) (by decide)) gw1030 gw1032 gs39 dX11_days_7) (by decide)) dX11_days_10 rfl)) (Or.inl rfl)) (JS.retI (pc1 := 18) (JX.call (pc1 := 15) decI_ok (JA.r (JX.al (k := 0) rfl dX11_days_13) (JA.i (JX.ic (n := 2) rfl dX11_days_14) JA.nil)) aX11_refuse (RunK.V (i := 73) (c := 11) (n := 1) cl11 rfl (CN nX11_refuse (by decide) (by decide)) gw590 gw592 gs1 dX11_days_15) (by decide)) dX11_days_18) (Or.inl rfl)) (JS.seq (pc1 := 26) (JS.call (pc1 := 23) (JA.r (JX.getR (pc1 := 20) (c := 11) (k := 3) (i := 29) (JX.al (k := 0) rfl dX11_days_19) cl11 (by decide) rfl fk11_29 dX11_days_20) JA.nil) aX10_remember (RunK.V (i := 286) (c := 10) (n := 0) cl10 rfl (CN nX10_remember (by decide) (by decide)) gw1232 gw1159 gw1160 dX11_days_23)) (JS.retI (pc1 := 34) (JX.call (pc1 := 31) decI_ok (JA.r (JX.getR (pc1 := 27) (c := 11) (k := 3) (i := 29) (JX.al (k := 0) rfl dX11_days_26) cl11 (by decide) rfl fk11_29 dX11_days_27) (JA.i (JX.il (k := 1) rfl dX11_days_30) JA.nil)) aX10_passDays (RunK.V (i := 292) (c := 10) (n := 1) cl10 rfl (CN nX10_passDays (by decide) (by decide)) gw1241 gw1242 gw1243 dX11_days_31) (by decide)) dX11_days_34)))
def mX11_days : MS := runM 2 (some (.int)) bX11_days
theorem aX11_days : MA yX11_days cX11_days 2 (some (.int)) 6 mX11_days := MA.of (plainFor_of_name (by decide)) jX11_days
theorem eX11_days (a0 : Nat) (a1 : Int32) (h : AH) : mX11_days [.ref a0, .int a1] h = (bX11_days [.val (.ref a0), .val (.int a1)] h).bind (finM (some (.int))) := rfl
/-! Vault.draw -/
theorem dX10_draw_0 : decode cX10_draw 0 = .ok (.aload_n 0, 1) := by decide +kernel
theorem dX10_draw_1 : decode cX10_draw 1 = .ok (.ldc2_w 279, 3) := by decide +kernel
theorem dX10_draw_4 : decode cX10_draw 4 = .ok (.aload_n 0, 1) := by decide +kernel
theorem dX10_draw_5 : decode cX10_draw 5 = .ok (.getfield 82, 3) := by decide +kernel
theorem dX10_draw_8 : decode cX10_draw 8 = .ok (.i2l, 1) := by decide +kernel
theorem dX10_draw_9 : decode cX10_draw 9 = .ok (.lmul, 1) := by decide +kernel
theorem dX10_draw_10 : decode cX10_draw 10 = .ok (.ldc2_w 281, 3) := by decide +kernel
theorem dX10_draw_13 : decode cX10_draw 13 = .ok (.ladd, 1) := by decide +kernel
theorem dX10_draw_14 : decode cX10_draw 14 = .ok (.ldc2_w 283, 3) := by decide +kernel
theorem dX10_draw_17 : decode cX10_draw 17 = .ok (.land, 1) := by decide +kernel
theorem dX10_draw_18 : decode cX10_draw 18 = .ok (.l2i, 1) := by decide +kernel
theorem dX10_draw_19 : decode cX10_draw 19 = .ok (.putfield 82, 3) := by decide +kernel
theorem dX10_draw_22 : decode cX10_draw 22 = .ok (.iload_n 1, 1) := by decide +kernel
theorem dX10_draw_23 : decode cX10_draw 23 = .ok (.ifCond .le 15, 3) := by decide +kernel
theorem dX10_draw_26 : decode cX10_draw 26 = .ok (.aload_n 0, 1) := by decide +kernel
theorem dX10_draw_27 : decode cX10_draw 27 = .ok (.getfield 82, 3) := by decide +kernel
theorem dX10_draw_30 : decode cX10_draw 30 = .ok (.bipush 64, 2) := by decide +kernel
theorem dX10_draw_32 : decode cX10_draw 32 = .ok (.idiv, 1) := by decide +kernel
theorem dX10_draw_33 : decode cX10_draw 33 = .ok (.iload_n 1, 1) := by decide +kernel
theorem dX10_draw_34 : decode cX10_draw 34 = .ok (.irem, 1) := by decide +kernel
theorem dX10_draw_35 : decode cX10_draw 35 = .ok (.goto 4, 3) := by decide +kernel
theorem dX10_draw_38 : decode cX10_draw 38 = .ok (.iconst 0, 1) := by decide +kernel
theorem dX10_draw_39 : decode cX10_draw 39 = .ok (.ireturn, 1) := by decide +kernel
abbrev MX10_draw : MI := (RX10, cX10_draw, 2, 1, false)
def bX10_draw : St := (seqS (putI 10 15 (lvR 0) (l2I (andL (addL (mulL (clL (lI 1103515245)) (i2L (getI 10 15 (lvR 0)))) (clL (lI 12345))) (clL (lI 2147483647))))) (retI (iteX (gt0 (lvI 1)) (remI (divI (getI 10 15 (lvR 0)) (ciI (iI 64))) (lvI 1)) (ciI (iI 0)))))
theorem jX10_draw : JS MX10_draw 0 0 0 40 [] bX10_draw :=
  (JS.seq (pc1 := 22) (JS.pI (pc1 := 1) (pc2 := 19) (c := 10) (k := 15) (i := 82) (JX.al (k := 0) rfl dX10_draw_0) (JX.l2i (pc1 := 18) (JX.land (pc1 := 14) (pc2 := 17) (JX.ladd (pc1 := 10) (pc2 := 13) (JX.lmul (pc1 := 4) (pc2 := 9) (JX.ld2K (i := 279) (by decide) gw1258 dX10_draw_1) (JX.i2l (pc1 := 8) (JX.getI (pc1 := 5) (c := 10) (k := 15) (i := 82) (JX.al (k := 0) rfl dX10_draw_4) cl10 (by decide) rfl fk10_82 dX10_draw_5) dX10_draw_8) dX10_draw_9) (JX.ld2K (i := 281) (by decide) gw1259 dX10_draw_10) dX10_draw_13) (JX.ld2K (i := 283) (by decide) gw1260 dX10_draw_14) dX10_draw_17) dX10_draw_18) cl10 (by decide) rfl fk10_82 (Or.inl rfl) dX10_draw_19) (JS.retI (pc1 := 39) (JX.ite (l := 38) (pc1 := 26) (pc2 := 35) (pc3 := 39) (lend := 39) (CJ.gt0_f (tgt := 38) (pc1 := 23) (JX.il (k := 1) rfl dX10_draw_22) dX10_draw_23 rfl) (JX.irem (pc1 := 33) (pc2 := 34) (JX.idiv (pc1 := 30) (pc2 := 32) (JX.getI (pc1 := 27) (c := 10) (k := 15) (i := 82) (JX.al (k := 0) rfl dX10_draw_26) cl10 (by decide) rfl fk10_82 dX10_draw_27) (JX.bp (n := 64) kb64 dX10_draw_30) dX10_draw_32) (JX.il (k := 1) rfl dX10_draw_33) dX10_draw_34) dX10_draw_35 rfl (JX.ic (n := 0) rfl dX10_draw_38) (Or.inl rfl)) dX10_draw_39))
def mX10_draw : MS := runM 2 (some (.int)) bX10_draw
theorem aX10_draw : MA yX10_draw cX10_draw 2 (some (.int)) 1 mX10_draw := MA.of (plainFor_of_name (by decide)) jX10_draw
theorem eX10_draw (a0 : Nat) (a1 : Int32) (h : AH) : mX10_draw [.ref a0, .int a1] h = (bX10_draw [.val (.ref a0), .val (.int a1)] h).bind (finM (some (.int))) := rfl
/-! Vault.rotBox -/
theorem dX10_rotBox_0 : decode cX10_rotBox 0 = .ok (.aload_n 0, 1) := by decide +kernel
theorem dX10_rotBox_1 : decode cX10_rotBox 1 = .ok (.getfield 64, 3) := by decide +kernel
theorem dX10_rotBox_4 : decode cX10_rotBox 4 = .ok (.getfield 219, 3) := by decide +kernel
theorem dX10_rotBox_7 : decode cX10_rotBox 7 = .ok (.invokevirtual 157, 3) := by decide +kernel
theorem dX10_rotBox_10 : decode cX10_rotBox 10 = .ok (.istore_n 1, 1) := by decide +kernel
theorem dX10_rotBox_11 : decode cX10_rotBox 11 = .ok (.aload_n 0, 1) := by decide +kernel
theorem dX10_rotBox_12 : decode cX10_rotBox 12 = .ok (.bipush 100, 2) := by decide +kernel
theorem dX10_rotBox_14 : decode cX10_rotBox 14 = .ok (.invokevirtual 285, 3) := by decide +kernel
theorem dX10_rotBox_17 : decode cX10_rotBox 17 = .ok (.aload_n 0, 1) := by decide +kernel
theorem dX10_rotBox_18 : decode cX10_rotBox 18 = .ok (.getfield 12, 3) := by decide +kernel
theorem dX10_rotBox_21 : decode cX10_rotBox 21 = .ok (.bipush 9, 2) := by decide +kernel
theorem dX10_rotBox_23 : decode cX10_rotBox 23 = .ok (.invokevirtual 147, 3) := by decide +kernel
theorem dX10_rotBox_26 : decode cX10_rotBox 26 = .ok (.if_icmp .ge 7, 3) := by decide +kernel
theorem dX10_rotBox_29 : decode cX10_rotBox 29 = .ok (.iload_n 1, 1) := by decide +kernel
theorem dX10_rotBox_30 : decode cX10_rotBox 30 = .ok (.ifCond .ne 5, 3) := by decide +kernel
theorem dX10_rotBox_33 : decode cX10_rotBox 33 = .ok (.iconst 0, 1) := by decide +kernel
theorem dX10_rotBox_34 : decode cX10_rotBox 34 = .ok (.ireturn, 1) := by decide +kernel
theorem dX10_rotBox_35 : decode cX10_rotBox 35 = .ok (.aload_n 0, 1) := by decide +kernel
theorem dX10_rotBox_36 : decode cX10_rotBox 36 = .ok (.getfield 64, 3) := by decide +kernel
theorem dX10_rotBox_39 : decode cX10_rotBox 39 = .ok (.getfield 213, 3) := by decide +kernel
theorem dX10_rotBox_42 : decode cX10_rotBox 42 = .ok (.aload_n 0, 1) := by decide +kernel
theorem dX10_rotBox_43 : decode cX10_rotBox 43 = .ok (.iload_n 1, 1) := by decide +kernel
theorem dX10_rotBox_44 : decode cX10_rotBox 44 = .ok (.invokevirtual 285, 3) := by decide +kernel
theorem dX10_rotBox_47 : decode cX10_rotBox 47 = .ok (.iconst 1, 1) := by decide +kernel
theorem dX10_rotBox_48 : decode cX10_rotBox 48 = .ok (.invokevirtual 168, 3) := by decide +kernel
theorem dX10_rotBox_51 : decode cX10_rotBox 51 = .ok (.iconst 1, 1) := by decide +kernel
theorem dX10_rotBox_52 : decode cX10_rotBox 52 = .ok (.ireturn, 1) := by decide +kernel
abbrev MX10_rotBox : MI := (RX10, cX10_rotBox, 2, 3, false)
def bX10_rotBox : St := (seqS (lsI 1 (calX decI (ckV 5 0) mX5_size (agC va_rf (getR 9 5 (getR 10 10 (lvR 0))) agN))) (seqS (ifS (orX (geI (calX decI (ckV 10 1) mX10_draw (agC va_rf (lvR 0) (agC Value.int (ciI (iI 100)) agN))) (calX decI (ckV 6 1) mX6_number (agC va_rf (getR 10 0 (lvR 0)) (agC Value.int (ciI (iI 9)) agN)))) (eq0 (lvI 1))) (retI (ciI (iI 0)))) (seqS (calS (ckV 5 2) mX5_put (agC va_rf (getR 9 6 (getR 10 10 (lvR 0))) (agC Value.int (calX decI (ckV 10 1) mX10_draw (agC va_rf (lvR 0) (agC Value.int (lvI 1) agN))) (agC Value.int (ciI (iI 1)) agN)))) (retI (ciI (iI 1))))))
theorem jX10_rotBox : JS MX10_rotBox 0 0 0 53 [] bX10_rotBox :=
  (JS.seq (pc1 := 11) (JS.is (pc1 := 10) (k := 1) (JX.call (pc1 := 7) decI_ok (JA.r (JX.getR (pc1 := 4) (c := 9) (k := 5) (i := 219) (JX.getR (pc1 := 1) (c := 10) (k := 10) (i := 64) (JX.al (k := 0) rfl dX10_rotBox_0) cl10 (by decide) rfl fk10_64 dX10_rotBox_1) cl9 (by decide) rfl fk10_219 dX10_rotBox_4) JA.nil) aX5_size (RunK.V (i := 157) (c := 5) (n := 0) cl5 rfl (CN nX5_size (by decide) (by decide)) gw788 gw587 gw588 dX10_rotBox_7) (by decide)) rfl (show 1 < 2 by decide) dX10_rotBox_10) (JS.seq (pc1 := 35) (JS.iff (l := 35) (pc1 := 33) (CJ.or_f (l := 33) (pc1 := 29) (CJ.ge_t (tgt := 33) (pc1 := 17) (pc2 := 26) (JX.call (pc1 := 14) decI_ok (JA.r (JX.al (k := 0) rfl dX10_rotBox_11) (JA.i (JX.bp (n := 100) kb100 dX10_rotBox_12) JA.nil)) aX10_draw (RunK.V (i := 285) (c := 10) (n := 1) cl10 rfl (CN nX10_draw (by decide) (by decide)) gw1254 gw1256 gs52 dX10_rotBox_14) (by decide)) (JX.call (pc1 := 23) decI_ok (JA.r (JX.getR (pc1 := 18) (c := 10) (k := 0) (i := 12) (JX.al (k := 0) rfl dX10_rotBox_17) cl10 (by decide) rfl fk10_12 dX10_rotBox_18) (JA.i (JX.bp (n := 9) kb9 dX10_rotBox_21) JA.nil)) aX6_number (RunK.V (i := 147) (c := 6) (n := 1) cl6 rfl (CN nX6_number (by decide) (by decide)) gw779 gw762 gw763 dX10_rotBox_23) (by decide)) dX10_rotBox_26 rfl) (CJ.eq0_f (tgt := 35) (pc1 := 30) (JX.il (k := 1) rfl dX10_rotBox_29) dX10_rotBox_30 rfl) (Or.inl rfl)) (JS.retI (pc1 := 34) (JX.ic (n := 0) rfl dX10_rotBox_33) dX10_rotBox_34) (Or.inl rfl)) (JS.seq (pc1 := 51) (JS.call (pc1 := 48) (JA.r (JX.getR (pc1 := 39) (c := 9) (k := 6) (i := 213) (JX.getR (pc1 := 36) (c := 10) (k := 10) (i := 64) (JX.al (k := 0) rfl dX10_rotBox_35) cl10 (by decide) rfl fk10_64 dX10_rotBox_36) cl9 (by decide) rfl fk10_213 dX10_rotBox_39) (JA.i (JX.call (pc1 := 44) decI_ok (JA.r (JX.al (k := 0) rfl dX10_rotBox_42) (JA.i (JX.il (k := 1) rfl dX10_rotBox_43) JA.nil)) aX10_draw (RunK.V (i := 285) (c := 10) (n := 1) cl10 rfl (CN nX10_draw (by decide) (by decide)) gw1254 gw1256 gs52 dX10_rotBox_44) (by decide)) (JA.i (JX.ic (n := 1) rfl dX10_rotBox_47) JA.nil))) aX5_put (RunK.V (i := 168) (c := 5) (n := 2) cl5 rfl (CN nX5_put (by decide) (by decide)) gw797 gw599 gw600 dX10_rotBox_48)) (JS.retI (pc1 := 52) (JX.ic (n := 1) rfl dX10_rotBox_51) dX10_rotBox_52))))
def mX10_rotBox : MS := runM 2 (some (.boolean)) bX10_rotBox
theorem aX10_rotBox : MA yX10_rotBox cX10_rotBox 2 (some (.boolean)) 3 mX10_rotBox := MA.of (plainFor_of_name (by decide)) jX10_rotBox
theorem eX10_rotBox (a0 : Nat) (h : AH) : mX10_rotBox [.ref a0] h = (bX10_rotBox [.val (.ref a0), .unset] h).bind (finM (some (.boolean))) := rfl
/-! PieceStore.chance -/
theorem dX11_chance_0 : decode cX11_chance 0 = .ok (.iload_n 1, 1) := by decide +kernel
theorem dX11_chance_1 : decode cX11_chance 1 = .ok (.iconst 1, 1) := by decide +kernel
theorem dX11_chance_2 : decode cX11_chance 2 = .ok (.if_icmp .lt 11, 3) := by decide +kernel
theorem dX11_chance_5 : decode cX11_chance 5 = .ok (.aload_n 0, 1) := by decide +kernel
theorem dX11_chance_6 : decode cX11_chance 6 = .ok (.iload_n 1, 1) := by decide +kernel
theorem dX11_chance_7 : decode cX11_chance 7 = .ok (.invokevirtual 243, 3) := by decide +kernel
theorem dX11_chance_10 : decode cX11_chance 10 = .ok (.ifCond .ne 9, 3) := by decide +kernel
theorem dX11_chance_13 : decode cX11_chance 13 = .ok (.aload_n 0, 1) := by decide +kernel
theorem dX11_chance_14 : decode cX11_chance 14 = .ok (.iconst 2, 1) := by decide +kernel
theorem dX11_chance_15 : decode cX11_chance 15 = .ok (.invokevirtual 73, 3) := by decide +kernel
theorem dX11_chance_18 : decode cX11_chance 18 = .ok (.ireturn, 1) := by decide +kernel
theorem dX11_chance_19 : decode cX11_chance 19 = .ok (.aload_n 0, 1) := by decide +kernel
theorem dX11_chance_20 : decode cX11_chance 20 = .ok (.getfield 29, 3) := by decide +kernel
theorem dX11_chance_23 : decode cX11_chance 23 = .ok (.invokevirtual 286, 3) := by decide +kernel
theorem dX11_chance_26 : decode cX11_chance 26 = .ok (.iconst 0, 1) := by decide +kernel
theorem dX11_chance_27 : decode cX11_chance 27 = .ok (.istore_n 2, 1) := by decide +kernel
theorem dX11_chance_28 : decode cX11_chance 28 = .ok (.iconst 0, 1) := by decide +kernel
theorem dX11_chance_29 : decode cX11_chance 29 = .ok (.istore_n 3, 1) := by decide +kernel
theorem dX11_chance_30 : decode cX11_chance 30 = .ok (.iload_n 3, 1) := by decide +kernel
theorem dX11_chance_31 : decode cX11_chance 31 = .ok (.iload_n 1, 1) := by decide +kernel
theorem dX11_chance_32 : decode cX11_chance 32 = .ok (.if_icmp .ge 36, 3) := by decide +kernel
theorem dX11_chance_35 : decode cX11_chance 35 = .ok (.iload_n 2, 1) := by decide +kernel
theorem dX11_chance_36 : decode cX11_chance 36 = .ok (.aload_n 0, 1) := by decide +kernel
theorem dX11_chance_37 : decode cX11_chance 37 = .ok (.getfield 29, 3) := by decide +kernel
theorem dX11_chance_40 : decode cX11_chance 40 = .ok (.invokevirtual 295, 3) := by decide +kernel
theorem dX11_chance_43 : decode cX11_chance 43 = .ok (.ifCond .eq 7, 3) := by decide +kernel
theorem dX11_chance_46 : decode cX11_chance 46 = .ok (.iconst 1, 1) := by decide +kernel
theorem dX11_chance_47 : decode cX11_chance 47 = .ok (.goto 4, 3) := by decide +kernel
theorem dX11_chance_50 : decode cX11_chance 50 = .ok (.iconst 0, 1) := by decide +kernel
theorem dX11_chance_51 : decode cX11_chance 51 = .ok (.iadd, 1) := by decide +kernel
theorem dX11_chance_52 : decode cX11_chance 52 = .ok (.istore_n 2, 1) := by decide +kernel
theorem dX11_chance_53 : decode cX11_chance 53 = .ok (.aload_n 0, 1) := by decide +kernel
theorem dX11_chance_54 : decode cX11_chance 54 = .ok (.getfield 29, 3) := by decide +kernel
theorem dX11_chance_57 : decode cX11_chance 57 = .ok (.iconst 1, 1) := by decide +kernel
theorem dX11_chance_58 : decode cX11_chance 58 = .ok (.invokevirtual 292, 3) := by decide +kernel
theorem dX11_chance_61 : decode cX11_chance 61 = .ok (.pop, 1) := by decide +kernel
theorem dX11_chance_62 : decode cX11_chance 62 = .ok (.iinc 3 1, 3) := by decide +kernel
theorem dX11_chance_65 : decode cX11_chance 65 = .ok (.goto (-35), 3) := by decide +kernel
theorem dX11_chance_68 : decode cX11_chance 68 = .ok (.iload_n 2, 1) := by decide +kernel
theorem dX11_chance_69 : decode cX11_chance 69 = .ok (.ireturn, 1) := by decide +kernel
abbrev MX11_chance : MI := (RX11, cX11_chance, 4, 6, false)
def lcX11_chance_1 : Ex Bool := (ltI (lvI 3) (lvI 1))
def lbX11_chance_1 : St := (forB (seqS (lsI 2 (addI (lvI 2) (iteX (ne0 (calX decI (ckV 10 0) mX10_rotBox (agC va_rf (getR 11 3 (lvR 0)) agN))) (ciI (iI 1)) (ciI (iI 0))))) (exS (calX decI (ckV 10 1) mX10_passDays (agC va_rf (getR 11 3 (lvR 0)) (agC Value.int (ciI (iI 1)) agN))))) (incI 3 (iI 1)))
def bX11_chance : St := (seqS (ifS (orX (ltI (lvI 1) (ciI (iI 1))) (notX (ne0 (calX decI (ckV 11 1) mX11_canPass (agC va_rf (lvR 0) (agC Value.int (lvI 1) agN)))))) (retI (calX decI (ckV 11 1) mX11_refuse (agC va_rf (lvR 0) (agC Value.int (ciI (iI 2)) agN))))) (seqS (calS (ckV 10 0) mX10_remember (agC va_rf (getR 11 3 (lvR 0)) agN)) (seqS (lsI 2 (ciI (iI 0))) (seqS (scS 3 (seqS (lsI 3 (ciI (iI 0))) (whileS lcX11_chance_1 lbX11_chance_1))) (retI (lvI 2))))))
theorem jX11_chance : JS MX11_chance 0 0 0 70 [] bX11_chance :=
  (JS.seq (pc1 := 19) (JS.iff (l := 19) (pc1 := 13) (CJ.or_f (l := 13) (pc1 := 5) (CJ.lt_t (tgt := 13) (pc1 := 1) (pc2 := 2) (JX.il (k := 1) rfl dX11_chance_0) (JX.ic (n := 1) rfl dX11_chance_1) dX11_chance_2 rfl) (CJ.not_f (CJ.ne0_t (tgt := 19) (pc1 := 10) (JX.call (pc1 := 7) decI_ok (JA.r (JX.al (k := 0) rfl dX11_chance_5) (JA.i (JX.il (k := 1) rfl dX11_chance_6) JA.nil)) aX11_canPass (RunK.V (i := 243) (c := 11) (n := 1) cl11 rfl (CN nX11_canPass (by decide) (by decide)) gw1030 gw1032 gs39 dX11_chance_7) (by decide)) dX11_chance_10 rfl)) (Or.inl rfl)) (JS.retI (pc1 := 18) (JX.call (pc1 := 15) decI_ok (JA.r (JX.al (k := 0) rfl dX11_chance_13) (JA.i (JX.ic (n := 2) rfl dX11_chance_14) JA.nil)) aX11_refuse (RunK.V (i := 73) (c := 11) (n := 1) cl11 rfl (CN nX11_refuse (by decide) (by decide)) gw590 gw592 gs1 dX11_chance_15) (by decide)) dX11_chance_18) (Or.inl rfl)) (JS.seq (pc1 := 26) (JS.call (pc1 := 23) (JA.r (JX.getR (pc1 := 20) (c := 11) (k := 3) (i := 29) (JX.al (k := 0) rfl dX11_chance_19) cl11 (by decide) rfl fk11_29 dX11_chance_20) JA.nil) aX10_remember (RunK.V (i := 286) (c := 10) (n := 0) cl10 rfl (CN nX10_remember (by decide) (by decide)) gw1232 gw1159 gw1160 dX11_chance_23)) (JS.seq (pc1 := 28) (JS.is (pc1 := 27) (k := 2) (JX.ic (n := 0) rfl dX11_chance_26) rfl (show 2 < 4 by decide) dX11_chance_27) (JS.seq (pc1 := 68) (JS.sc (JS.seq (pc1 := 30) (JS.is (pc1 := 29) (k := 3) (JX.ic (n := 0) rfl dX11_chance_28) rfl (show 3 < 4 by decide) dX11_chance_29) (JS.while (l := 68) (lb := 68) (pc1 := 35) (pc2 := 65) (pc3 := 68) (CJ.lt_f (tgt := 68) (pc1 := 31) (pc2 := 32) (JX.il (k := 3) rfl dX11_chance_30) (JX.il (k := 1) rfl dX11_chance_31) dX11_chance_32 rfl) (JS.forb (pc1 := 62) (JS.seq (pc1 := 53) (JS.is (pc1 := 52) (k := 2) (JX.iadd (pc1 := 36) (pc2 := 51) (JX.il (k := 2) rfl dX11_chance_35) (JX.ite (l := 50) (pc1 := 46) (pc2 := 47) (pc3 := 51) (lend := 51) (CJ.ne0_f (tgt := 50) (pc1 := 43) (JX.call (pc1 := 40) decI_ok (JA.r (JX.getR (pc1 := 37) (c := 11) (k := 3) (i := 29) (JX.al (k := 0) rfl dX11_chance_36) cl11 (by decide) rfl fk11_29 dX11_chance_37) JA.nil) aX10_rotBox (RunK.V (i := 295) (c := 10) (n := 0) cl10 rfl (CN nX10_rotBox (by decide) (by decide)) gw1250 gw1251 gw1252 dX11_chance_40) (by decide)) dX11_chance_43 rfl) (JX.ic (n := 1) rfl dX11_chance_46) dX11_chance_47 rfl (JX.ic (n := 0) rfl dX11_chance_50) (Or.inl rfl)) dX11_chance_51) rfl (show 2 < 4 by decide) dX11_chance_52) (JS.pop (pc1 := 61) (JX.call (pc1 := 58) decI_ok (JA.r (JX.getR (pc1 := 54) (c := 11) (k := 3) (i := 29) (JX.al (k := 0) rfl dX11_chance_53) cl11 (by decide) rfl fk11_29 dX11_chance_54) (JA.i (JX.ic (n := 1) rfl dX11_chance_57) JA.nil)) aX10_passDays (RunK.V (i := 292) (c := 10) (n := 1) cl10 rfl (CN nX10_passDays (by decide) (by decide)) gw1241 gw1242 gw1243 dX11_chance_58) (by decide)) (fun _ => rfl) dX11_chance_61)) (JS.inc (n := 1) rfl (show 3 < 4 by decide) dX11_chance_62)) dX11_chance_65 rfl (Or.inl rfl) (Or.inl rfl)))) (JS.retI (pc1 := 69) (JX.il (k := 2) rfl dX11_chance_68) dX11_chance_69)))))
def mX11_chance : MS := runM 4 (some (.int)) bX11_chance
theorem aX11_chance : MA yX11_chance cX11_chance 4 (some (.int)) 6 mX11_chance := MA.of (plainFor_of_name (by decide)) jX11_chance
theorem eX11_chance (a0 : Nat) (a1 : Int32) (h : AH) : mX11_chance [.ref a0, .int a1] h = (bX11_chance [.val (.ref a0), .val (.int a1), .unset, .unset] h).bind (finM (some (.int))) := rfl
/-! Vault.becomes -/
theorem dX10_becomes_0 : decode cX10_becomes 0 = .ok (.iconst 0, 1) := by decide +kernel
theorem dX10_becomes_1 : decode cX10_becomes 1 = .ok (.istore_n 2, 1) := by decide +kernel
theorem dX10_becomes_2 : decode cX10_becomes 2 = .ok (.iload_n 2, 1) := by decide +kernel
theorem dX10_becomes_3 : decode cX10_becomes 3 = .ok (.aload_n 0, 1) := by decide +kernel
theorem dX10_becomes_4 : decode cX10_becomes 4 = .ok (.getfield 64, 3) := by decide +kernel
theorem dX10_becomes_7 : decode cX10_becomes 7 = .ok (.getfield 121, 3) := by decide +kernel
theorem dX10_becomes_10 : decode cX10_becomes 10 = .ok (.invokevirtual 157, 3) := by decide +kernel
theorem dX10_becomes_13 : decode cX10_becomes 13 = .ok (.if_icmp .ge 28, 3) := by decide +kernel
theorem dX10_becomes_16 : decode cX10_becomes 16 = .ok (.aload_n 0, 1) := by decide +kernel
theorem dX10_becomes_17 : decode cX10_becomes 17 = .ok (.getfield 46, 3) := by decide +kernel
theorem dX10_becomes_20 : decode cX10_becomes 20 = .ok (.aload_n 0, 1) := by decide +kernel
theorem dX10_becomes_21 : decode cX10_becomes 21 = .ok (.getfield 64, 3) := by decide +kernel
theorem dX10_becomes_24 : decode cX10_becomes 24 = .ok (.getfield 121, 3) := by decide +kernel
theorem dX10_becomes_27 : decode cX10_becomes 27 = .ok (.iload_n 2, 1) := by decide +kernel
theorem dX10_becomes_28 : decode cX10_becomes 28 = .ok (.invokevirtual 114, 3) := by decide +kernel
theorem dX10_becomes_31 : decode cX10_becomes 31 = .ok (.iconst (-1), 1) := by decide +kernel
theorem dX10_becomes_32 : decode cX10_becomes 32 = .ok (.invokevirtual 168, 3) := by decide +kernel
theorem dX10_becomes_35 : decode cX10_becomes 35 = .ok (.iinc 2 1, 3) := by decide +kernel
theorem dX10_becomes_38 : decode cX10_becomes 38 = .ok (.goto (-36), 3) := by decide +kernel
theorem dX10_becomes_41 : decode cX10_becomes 41 = .ok (.aload_n 0, 1) := by decide +kernel
theorem dX10_becomes_42 : decode cX10_becomes 42 = .ok (.getfield 64, 3) := by decide +kernel
theorem dX10_becomes_45 : decode cX10_becomes 45 = .ok (.aload_n 1, 1) := by decide +kernel
theorem dX10_becomes_46 : decode cX10_becomes 46 = .ok (.invokevirtual 222, 3) := by decide +kernel
theorem dX10_becomes_49 : decode cX10_becomes 49 = .ok (.iconst 0, 1) := by decide +kernel
theorem dX10_becomes_50 : decode cX10_becomes 50 = .ok (.istore_n 2, 1) := by decide +kernel
theorem dX10_becomes_51 : decode cX10_becomes 51 = .ok (.iload_n 2, 1) := by decide +kernel
theorem dX10_becomes_52 : decode cX10_becomes 52 = .ok (.aload_n 0, 1) := by decide +kernel
theorem dX10_becomes_53 : decode cX10_becomes 53 = .ok (.getfield 64, 3) := by decide +kernel
theorem dX10_becomes_56 : decode cX10_becomes 56 = .ok (.getfield 121, 3) := by decide +kernel
theorem dX10_becomes_59 : decode cX10_becomes 59 = .ok (.invokevirtual 157, 3) := by decide +kernel
theorem dX10_becomes_62 : decode cX10_becomes 62 = .ok (.if_icmp .ge 28, 3) := by decide +kernel
theorem dX10_becomes_65 : decode cX10_becomes 65 = .ok (.aload_n 0, 1) := by decide +kernel
theorem dX10_becomes_66 : decode cX10_becomes 66 = .ok (.getfield 46, 3) := by decide +kernel
theorem dX10_becomes_69 : decode cX10_becomes 69 = .ok (.aload_n 0, 1) := by decide +kernel
theorem dX10_becomes_70 : decode cX10_becomes 70 = .ok (.getfield 64, 3) := by decide +kernel
theorem dX10_becomes_73 : decode cX10_becomes 73 = .ok (.getfield 121, 3) := by decide +kernel
theorem dX10_becomes_76 : decode cX10_becomes 76 = .ok (.iload_n 2, 1) := by decide +kernel
theorem dX10_becomes_77 : decode cX10_becomes 77 = .ok (.invokevirtual 114, 3) := by decide +kernel
theorem dX10_becomes_80 : decode cX10_becomes 80 = .ok (.iload_n 2, 1) := by decide +kernel
theorem dX10_becomes_81 : decode cX10_becomes 81 = .ok (.invokevirtual 168, 3) := by decide +kernel
theorem dX10_becomes_84 : decode cX10_becomes 84 = .ok (.iinc 2 1, 3) := by decide +kernel
theorem dX10_becomes_87 : decode cX10_becomes 87 = .ok (.goto (-36), 3) := by decide +kernel
theorem dX10_becomes_90 : decode cX10_becomes 90 = .ok (.return_, 1) := by decide +kernel
abbrev MX10_becomes : MI := (RX10, cX10_becomes, 3, 5, false)
def lcX10_becomes_1 : Ex Bool := (ltI (lvI 2) (calX decI (ckV 5 0) mX5_size (agC va_rf (getR 9 0 (getR 10 10 (lvR 0))) agN)))
def lbX10_becomes_1 : St := (forB (calS (ckV 5 2) mX5_put (agC va_rf (getR 10 5 (lvR 0)) (agC Value.int (calX decI (ckV 5 1) mX5_at (agC va_rf (getR 9 0 (getR 10 10 (lvR 0))) (agC Value.int (lvI 2) agN))) (agC Value.int (ciI (iI (-1))) agN)))) (incI 2 (iI 1)))
def lcX10_becomes_2 : Ex Bool := (ltI (lvI 2) (calX decI (ckV 5 0) mX5_size (agC va_rf (getR 9 0 (getR 10 10 (lvR 0))) agN)))
def lbX10_becomes_2 : St := (forB (calS (ckV 5 2) mX5_put (agC va_rf (getR 10 5 (lvR 0)) (agC Value.int (calX decI (ckV 5 1) mX5_at (agC va_rf (getR 9 0 (getR 10 10 (lvR 0))) (agC Value.int (lvI 2) agN))) (agC Value.int (lvI 2) agN)))) (incI 2 (iI 1)))
def bX10_becomes : St := (seqS (scS 2 (seqS (lsI 2 (ciI (iI 0))) (whileS lcX10_becomes_1 lbX10_becomes_1))) (seqS (calS (ckV 9 1) mX9_copyFrom (agC va_rf (getR 10 10 (lvR 0)) (agC va_rf (lvR 1) agN))) (seqS (scS 2 (seqS (lsI 2 (ciI (iI 0))) (whileS lcX10_becomes_2 lbX10_becomes_2))) retV)))
theorem jX10_becomes : JS MX10_becomes 0 0 0 91 [] bX10_becomes :=
  (JS.seq (pc1 := 41) (JS.sc (JS.seq (pc1 := 2) (JS.is (pc1 := 1) (k := 2) (JX.ic (n := 0) rfl dX10_becomes_0) rfl (show 2 < 3 by decide) dX10_becomes_1) (JS.while (l := 41) (lb := 41) (pc1 := 16) (pc2 := 38) (pc3 := 41) (CJ.lt_f (tgt := 41) (pc1 := 3) (pc2 := 13) (JX.il (k := 2) rfl dX10_becomes_2) (JX.call (pc1 := 10) decI_ok (JA.r (JX.getR (pc1 := 7) (c := 9) (k := 0) (i := 121) (JX.getR (pc1 := 4) (c := 10) (k := 10) (i := 64) (JX.al (k := 0) rfl dX10_becomes_3) cl10 (by decide) rfl fk10_64 dX10_becomes_4) cl9 (by decide) rfl fk10_121 dX10_becomes_7) JA.nil) aX5_size (RunK.V (i := 157) (c := 5) (n := 0) cl5 rfl (CN nX5_size (by decide) (by decide)) gw788 gw587 gw588 dX10_becomes_10) (by decide)) dX10_becomes_13 rfl) (JS.forb (pc1 := 35) (JS.call (pc1 := 32) (JA.r (JX.getR (pc1 := 17) (c := 10) (k := 5) (i := 46) (JX.al (k := 0) rfl dX10_becomes_16) cl10 (by decide) rfl fk10_46 dX10_becomes_17) (JA.i (JX.call (pc1 := 28) decI_ok (JA.r (JX.getR (pc1 := 24) (c := 9) (k := 0) (i := 121) (JX.getR (pc1 := 21) (c := 10) (k := 10) (i := 64) (JX.al (k := 0) rfl dX10_becomes_20) cl10 (by decide) rfl fk10_64 dX10_becomes_21) cl9 (by decide) rfl fk10_121 dX10_becomes_24) (JA.i (JX.il (k := 2) rfl dX10_becomes_27) JA.nil)) aX5_at (RunK.V (i := 114) (c := 5) (n := 1) cl5 rfl (CN nX5_at (by decide) (by decide)) gw774 gw595 gw596 dX10_becomes_28) (by decide)) (JA.i (JX.ic (n := (-1)) rfl dX10_becomes_31) JA.nil))) aX5_put (RunK.V (i := 168) (c := 5) (n := 2) cl5 rfl (CN nX5_put (by decide) (by decide)) gw797 gw599 gw600 dX10_becomes_32)) (JS.inc (n := 1) rfl (show 2 < 3 by decide) dX10_becomes_35)) dX10_becomes_38 rfl (Or.inl rfl) (Or.inl rfl)))) (JS.seq (pc1 := 49) (JS.call (pc1 := 46) (JA.r (JX.getR (pc1 := 42) (c := 10) (k := 10) (i := 64) (JX.al (k := 0) rfl dX10_becomes_41) cl10 (by decide) rfl fk10_64 dX10_becomes_42) (JA.r (JX.al (k := 1) rfl dX10_becomes_45) JA.nil)) aX9_copyFrom (RunK.V (i := 222) (c := 9) (n := 1) cl9 rfl (CN nX9_copyFrom (by decide) (by decide)) gw1162 gw1163 gw1164 dX10_becomes_46)) (JS.seq (pc1 := 90) (JS.sc (JS.seq (pc1 := 51) (JS.is (pc1 := 50) (k := 2) (JX.ic (n := 0) rfl dX10_becomes_49) rfl (show 2 < 3 by decide) dX10_becomes_50) (JS.while (l := 90) (lb := 90) (pc1 := 65) (pc2 := 87) (pc3 := 90) (CJ.lt_f (tgt := 90) (pc1 := 52) (pc2 := 62) (JX.il (k := 2) rfl dX10_becomes_51) (JX.call (pc1 := 59) decI_ok (JA.r (JX.getR (pc1 := 56) (c := 9) (k := 0) (i := 121) (JX.getR (pc1 := 53) (c := 10) (k := 10) (i := 64) (JX.al (k := 0) rfl dX10_becomes_52) cl10 (by decide) rfl fk10_64 dX10_becomes_53) cl9 (by decide) rfl fk10_121 dX10_becomes_56) JA.nil) aX5_size (RunK.V (i := 157) (c := 5) (n := 0) cl5 rfl (CN nX5_size (by decide) (by decide)) gw788 gw587 gw588 dX10_becomes_59) (by decide)) dX10_becomes_62 rfl) (JS.forb (pc1 := 84) (JS.call (pc1 := 81) (JA.r (JX.getR (pc1 := 66) (c := 10) (k := 5) (i := 46) (JX.al (k := 0) rfl dX10_becomes_65) cl10 (by decide) rfl fk10_46 dX10_becomes_66) (JA.i (JX.call (pc1 := 77) decI_ok (JA.r (JX.getR (pc1 := 73) (c := 9) (k := 0) (i := 121) (JX.getR (pc1 := 70) (c := 10) (k := 10) (i := 64) (JX.al (k := 0) rfl dX10_becomes_69) cl10 (by decide) rfl fk10_64 dX10_becomes_70) cl9 (by decide) rfl fk10_121 dX10_becomes_73) (JA.i (JX.il (k := 2) rfl dX10_becomes_76) JA.nil)) aX5_at (RunK.V (i := 114) (c := 5) (n := 1) cl5 rfl (CN nX5_at (by decide) (by decide)) gw774 gw595 gw596 dX10_becomes_77) (by decide)) (JA.i (JX.il (k := 2) rfl dX10_becomes_80) JA.nil))) aX5_put (RunK.V (i := 168) (c := 5) (n := 2) cl5 rfl (CN nX5_put (by decide) (by decide)) gw797 gw599 gw600 dX10_becomes_81)) (JS.inc (n := 1) rfl (show 2 < 3 by decide) dX10_becomes_84)) dX10_becomes_87 rfl (Or.inl rfl) (Or.inl rfl)))) (JS.retV dX10_becomes_90))))
def mX10_becomes : MS := runM 3 none bX10_becomes
theorem aX10_becomes : MA yX10_becomes cX10_becomes 3 none 5 mX10_becomes := MA.of (plainFor_of_name (by decide)) jX10_becomes
theorem eX10_becomes (a0 : Nat) (a1 : Nat) (h : AH) : mX10_becomes [.ref a0, .ref a1] h = (bX10_becomes [.val (.ref a0), .val (.ref a1), .unset] h).bind (finM none) := rfl
/-! PieceStore.clean -/
theorem dX11_clean_0 : decode cX11_clean 0 = .ok (.aload_n 0, 1) := by decide +kernel
theorem dX11_clean_1 : decode cX11_clean 1 = .ok (.getfield 29, 3) := by decide +kernel
theorem dX11_clean_4 : decode cX11_clean 4 = .ok (.aload_n 0, 1) := by decide +kernel
theorem dX11_clean_5 : decode cX11_clean 5 = .ok (.getfield 29, 3) := by decide +kernel
theorem dX11_clean_8 : decode cX11_clean 8 = .ok (.getfield 253, 3) := by decide +kernel
theorem dX11_clean_11 : decode cX11_clean 11 = .ok (.invokevirtual 256, 3) := by decide +kernel
theorem dX11_clean_14 : decode cX11_clean 14 = .ok (.istore_n 1, 1) := by decide +kernel
theorem dX11_clean_15 : decode cX11_clean 15 = .ok (.iload_n 1, 1) := by decide +kernel
theorem dX11_clean_16 : decode cX11_clean 16 = .ok (.ifCond .ne 9, 3) := by decide +kernel
theorem dX11_clean_19 : decode cX11_clean 19 = .ok (.aload_n 0, 1) := by decide +kernel
theorem dX11_clean_20 : decode cX11_clean 20 = .ok (.iconst 2, 1) := by decide +kernel
theorem dX11_clean_21 : decode cX11_clean 21 = .ok (.invokevirtual 73, 3) := by decide +kernel
theorem dX11_clean_24 : decode cX11_clean 24 = .ok (.ireturn, 1) := by decide +kernel
theorem dX11_clean_25 : decode cX11_clean 25 = .ok (.aload_n 0, 1) := by decide +kernel
theorem dX11_clean_26 : decode cX11_clean 26 = .ok (.getfield 29, 3) := by decide +kernel
theorem dX11_clean_29 : decode cX11_clean 29 = .ok (.invokevirtual 286, 3) := by decide +kernel
theorem dX11_clean_32 : decode cX11_clean 32 = .ok (.aload_n 0, 1) := by decide +kernel
theorem dX11_clean_33 : decode cX11_clean 33 = .ok (.getfield 29, 3) := by decide +kernel
theorem dX11_clean_36 : decode cX11_clean 36 = .ok (.aload_n 0, 1) := by decide +kernel
theorem dX11_clean_37 : decode cX11_clean 37 = .ok (.getfield 29, 3) := by decide +kernel
theorem dX11_clean_40 : decode cX11_clean 40 = .ok (.getfield 253, 3) := by decide +kernel
theorem dX11_clean_43 : decode cX11_clean 43 = .ok (.invokevirtual 298, 3) := by decide +kernel
theorem dX11_clean_46 : decode cX11_clean 46 = .ok (.iload_n 1, 1) := by decide +kernel
theorem dX11_clean_47 : decode cX11_clean 47 = .ok (.ireturn, 1) := by decide +kernel
abbrev MX11_clean : MI := (RX11, cX11_clean, 2, 7, false)
def bX11_clean : St := (seqS (lsI 1 (calX decI (ckV 10 1) mX10_cleanInto (agC va_rf (getR 11 3 (lvR 0)) (agC va_rf (getR 10 11 (getR 11 3 (lvR 0))) agN)))) (seqS (ifS (eq0 (lvI 1)) (retI (calX decI (ckV 11 1) mX11_refuse (agC va_rf (lvR 0) (agC Value.int (ciI (iI 2)) agN))))) (seqS (calS (ckV 10 0) mX10_remember (agC va_rf (getR 11 3 (lvR 0)) agN)) (seqS (calS (ckV 10 1) mX10_becomes (agC va_rf (getR 11 3 (lvR 0)) (agC va_rf (getR 10 11 (getR 11 3 (lvR 0))) agN))) (retI (lvI 1))))))
theorem jX11_clean : JS MX11_clean 0 0 0 48 [] bX11_clean :=
  (JS.seq (pc1 := 15) (JS.is (pc1 := 14) (k := 1) (JX.call (pc1 := 11) decI_ok (JA.r (JX.getR (pc1 := 1) (c := 11) (k := 3) (i := 29) (JX.al (k := 0) rfl dX11_clean_0) cl11 (by decide) rfl fk11_29 dX11_clean_1) (JA.r (JX.getR (pc1 := 8) (c := 10) (k := 11) (i := 253) (JX.getR (pc1 := 5) (c := 11) (k := 3) (i := 29) (JX.al (k := 0) rfl dX11_clean_4) cl11 (by decide) rfl fk11_29 dX11_clean_5) cl10 (by decide) rfl fk11_253 dX11_clean_8) JA.nil)) aX10_cleanInto (RunK.V (i := 256) (c := 10) (n := 1) cl10 rfl (CN nX10_cleanInto (by decide) (by decide)) gw1047 gw1048 gw1049 dX11_clean_11) (by decide)) rfl (show 1 < 2 by decide) dX11_clean_14) (JS.seq (pc1 := 25) (JS.iff (l := 25) (pc1 := 19) (CJ.eq0_f (tgt := 25) (pc1 := 16) (JX.il (k := 1) rfl dX11_clean_15) dX11_clean_16 rfl) (JS.retI (pc1 := 24) (JX.call (pc1 := 21) decI_ok (JA.r (JX.al (k := 0) rfl dX11_clean_19) (JA.i (JX.ic (n := 2) rfl dX11_clean_20) JA.nil)) aX11_refuse (RunK.V (i := 73) (c := 11) (n := 1) cl11 rfl (CN nX11_refuse (by decide) (by decide)) gw590 gw592 gs1 dX11_clean_21) (by decide)) dX11_clean_24) (Or.inl rfl)) (JS.seq (pc1 := 32) (JS.call (pc1 := 29) (JA.r (JX.getR (pc1 := 26) (c := 11) (k := 3) (i := 29) (JX.al (k := 0) rfl dX11_clean_25) cl11 (by decide) rfl fk11_29 dX11_clean_26) JA.nil) aX10_remember (RunK.V (i := 286) (c := 10) (n := 0) cl10 rfl (CN nX10_remember (by decide) (by decide)) gw1232 gw1159 gw1160 dX11_clean_29)) (JS.seq (pc1 := 46) (JS.call (pc1 := 43) (JA.r (JX.getR (pc1 := 33) (c := 11) (k := 3) (i := 29) (JX.al (k := 0) rfl dX11_clean_32) cl11 (by decide) rfl fk11_29 dX11_clean_33) (JA.r (JX.getR (pc1 := 40) (c := 10) (k := 11) (i := 253) (JX.getR (pc1 := 37) (c := 11) (k := 3) (i := 29) (JX.al (k := 0) rfl dX11_clean_36) cl11 (by decide) rfl fk11_29 dX11_clean_37) cl10 (by decide) rfl fk11_253 dX11_clean_40) JA.nil)) aX10_becomes (RunK.V (i := 298) (c := 10) (n := 1) cl10 rfl (CN nX10_becomes (by decide) (by decide)) gw1265 gw1266 gw1267 dX11_clean_43)) (JS.retI (pc1 := 47) (JX.il (k := 1) rfl dX11_clean_46) dX11_clean_47)))))
def mX11_clean : MS := runM 2 (some (.int)) bX11_clean
theorem aX11_clean : MA yX11_clean cX11_clean 2 (some (.int)) 7 mX11_clean := MA.of (plainFor_of_name (by decide)) jX11_clean
theorem eX11_clean (a0 : Nat) (h : AH) : mX11_clean [.ref a0] h = (bX11_clean [.val (.ref a0), .unset] h).bind (finM (some (.int))) := rfl
/-! PieceStore.spoil -/
theorem dX11_spoil_0 : decode cX11_spoil 0 = .ok (.aload_n 0, 1) := by decide +kernel
theorem dX11_spoil_1 : decode cX11_spoil 1 = .ok (.getfield 29, 3) := by decide +kernel
theorem dX11_spoil_4 : decode cX11_spoil 4 = .ok (.iload_n 1, 1) := by decide +kernel
theorem dX11_spoil_5 : decode cX11_spoil 5 = .ok (.iload_n 2, 1) := by decide +kernel
theorem dX11_spoil_6 : decode cX11_spoil 6 = .ok (.invokevirtual 170, 3) := by decide +kernel
theorem dX11_spoil_9 : decode cX11_spoil 9 = .ok (.istore_n 3, 1) := by decide +kernel
theorem dX11_spoil_10 : decode cX11_spoil 10 = .ok (.aload_n 0, 1) := by decide +kernel
theorem dX11_spoil_11 : decode cX11_spoil 11 = .ok (.getfield 29, 3) := by decide +kernel
theorem dX11_spoil_14 : decode cX11_spoil 14 = .ok (.getfield 112, 3) := by decide +kernel
theorem dX11_spoil_17 : decode cX11_spoil 17 = .ok (.getfield 185, 3) := by decide +kernel
theorem dX11_spoil_20 : decode cX11_spoil 20 = .ok (.iload_n 3, 1) := by decide +kernel
theorem dX11_spoil_21 : decode cX11_spoil 21 = .ok (.invokevirtual 161, 3) := by decide +kernel
theorem dX11_spoil_24 : decode cX11_spoil 24 = .ok (.ifCond .eq 11, 3) := by decide +kernel
theorem dX11_spoil_27 : decode cX11_spoil 27 = .ok (.aload_n 0, 1) := by decide +kernel
theorem dX11_spoil_28 : decode cX11_spoil 28 = .ok (.iconst 3, 1) := by decide +kernel
theorem dX11_spoil_29 : decode cX11_spoil 29 = .ok (.invokevirtual 73, 3) := by decide +kernel
theorem dX11_spoil_32 : decode cX11_spoil 32 = .ok (.pop, 1) := by decide +kernel
theorem dX11_spoil_33 : decode cX11_spoil 33 = .ok (.iconst 0, 1) := by decide +kernel
theorem dX11_spoil_34 : decode cX11_spoil 34 = .ok (.ireturn, 1) := by decide +kernel
theorem dX11_spoil_35 : decode cX11_spoil 35 = .ok (.aload_n 0, 1) := by decide +kernel
theorem dX11_spoil_36 : decode cX11_spoil 36 = .ok (.getfield 29, 3) := by decide +kernel
theorem dX11_spoil_39 : decode cX11_spoil 39 = .ok (.invokevirtual 286, 3) := by decide +kernel
theorem dX11_spoil_42 : decode cX11_spoil 42 = .ok (.aload_n 0, 1) := by decide +kernel
theorem dX11_spoil_43 : decode cX11_spoil 43 = .ok (.getfield 29, 3) := by decide +kernel
theorem dX11_spoil_46 : decode cX11_spoil 46 = .ok (.getfield 112, 3) := by decide +kernel
theorem dX11_spoil_49 : decode cX11_spoil 49 = .ok (.getfield 185, 3) := by decide +kernel
theorem dX11_spoil_52 : decode cX11_spoil 52 = .ok (.iload_n 3, 1) := by decide +kernel
theorem dX11_spoil_53 : decode cX11_spoil 53 = .ok (.iconst 1, 1) := by decide +kernel
theorem dX11_spoil_54 : decode cX11_spoil 54 = .ok (.invokevirtual 228, 3) := by decide +kernel
theorem dX11_spoil_57 : decode cX11_spoil 57 = .ok (.iconst 1, 1) := by decide +kernel
theorem dX11_spoil_58 : decode cX11_spoil 58 = .ok (.ireturn, 1) := by decide +kernel
abbrev MX11_spoil : MI := (RX11, cX11_spoil, 4, 6, false)
def bX11_spoil : St := (seqS (lsI 3 (calX decI (ckV 10 2) mX10_spotOf (agC va_rf (getR 11 3 (lvR 0)) (agC Value.int (lvI 1) (agC Value.int (lvI 2) agN))))) (seqS (ifS (ne0 (calX decI (ckV 5 1) mX5_at (agC va_rf (getR 9 1 (getR 10 10 (getR 11 3 (lvR 0)))) (agC Value.int (lvI 3) agN)))) (seqS (exS (calX decI (ckV 11 1) mX11_refuse (agC va_rf (lvR 0) (agC Value.int (ciI (iI 3)) agN)))) (retI (ciI (iI 0))))) (seqS (calS (ckV 10 0) mX10_remember (agC va_rf (getR 11 3 (lvR 0)) agN)) (seqS (calS (ckV 5 2) mX5_put (agC va_rf (getR 9 1 (getR 10 10 (getR 11 3 (lvR 0)))) (agC Value.int (lvI 3) (agC Value.int (ciI (iI 1)) agN)))) (retI (ciI (iI 1)))))))
theorem jX11_spoil : JS MX11_spoil 0 0 0 59 [] bX11_spoil :=
  (JS.seq (pc1 := 10) (JS.is (pc1 := 9) (k := 3) (JX.call (pc1 := 6) decI_ok (JA.r (JX.getR (pc1 := 1) (c := 11) (k := 3) (i := 29) (JX.al (k := 0) rfl dX11_spoil_0) cl11 (by decide) rfl fk11_29 dX11_spoil_1) (JA.i (JX.il (k := 1) rfl dX11_spoil_4) (JA.i (JX.il (k := 2) rfl dX11_spoil_5) JA.nil))) aX10_spotOf (RunK.V (i := 170) (c := 10) (n := 2) cl10 rfl (CN nX10_spotOf (by decide) (by decide)) gw825 gw794 gw795 dX11_spoil_6) (by decide)) rfl (show 3 < 4 by decide) dX11_spoil_9) (JS.seq (pc1 := 35) (JS.iff (l := 35) (pc1 := 27) (CJ.ne0_f (tgt := 35) (pc1 := 24) (JX.call (pc1 := 21) decI_ok (JA.r (JX.getR (pc1 := 17) (c := 9) (k := 1) (i := 185) (JX.getR (pc1 := 14) (c := 10) (k := 10) (i := 112) (JX.getR (pc1 := 11) (c := 11) (k := 3) (i := 29) (JX.al (k := 0) rfl dX11_spoil_10) cl11 (by decide) rfl fk11_29 dX11_spoil_11) cl10 (by decide) rfl fk11_112 dX11_spoil_14) cl9 (by decide) rfl fk11_185 dX11_spoil_17) (JA.i (JX.il (k := 3) rfl dX11_spoil_20) JA.nil)) aX5_at (RunK.V (i := 161) (c := 5) (n := 1) cl5 rfl (CN nX5_at (by decide) (by decide)) gw594 gw595 gw596 dX11_spoil_21) (by decide)) dX11_spoil_24 rfl) (JS.seq (pc1 := 33) (JS.pop (pc1 := 32) (JX.call (pc1 := 29) decI_ok (JA.r (JX.al (k := 0) rfl dX11_spoil_27) (JA.i (JX.ic (n := 3) rfl dX11_spoil_28) JA.nil)) aX11_refuse (RunK.V (i := 73) (c := 11) (n := 1) cl11 rfl (CN nX11_refuse (by decide) (by decide)) gw590 gw592 gs1 dX11_spoil_29) (by decide)) (fun _ => rfl) dX11_spoil_32) (JS.retI (pc1 := 34) (JX.ic (n := 0) rfl dX11_spoil_33) dX11_spoil_34)) (Or.inl rfl)) (JS.seq (pc1 := 42) (JS.call (pc1 := 39) (JA.r (JX.getR (pc1 := 36) (c := 11) (k := 3) (i := 29) (JX.al (k := 0) rfl dX11_spoil_35) cl11 (by decide) rfl fk11_29 dX11_spoil_36) JA.nil) aX10_remember (RunK.V (i := 286) (c := 10) (n := 0) cl10 rfl (CN nX10_remember (by decide) (by decide)) gw1232 gw1159 gw1160 dX11_spoil_39)) (JS.seq (pc1 := 57) (JS.call (pc1 := 54) (JA.r (JX.getR (pc1 := 49) (c := 9) (k := 1) (i := 185) (JX.getR (pc1 := 46) (c := 10) (k := 10) (i := 112) (JX.getR (pc1 := 43) (c := 11) (k := 3) (i := 29) (JX.al (k := 0) rfl dX11_spoil_42) cl11 (by decide) rfl fk11_29 dX11_spoil_43) cl10 (by decide) rfl fk11_112 dX11_spoil_46) cl9 (by decide) rfl fk11_185 dX11_spoil_49) (JA.i (JX.il (k := 3) rfl dX11_spoil_52) (JA.i (JX.ic (n := 1) rfl dX11_spoil_53) JA.nil))) aX5_put (RunK.V (i := 228) (c := 5) (n := 2) cl5 rfl (CN nX5_put (by decide) (by decide)) gw598 gw599 gw600 dX11_spoil_54)) (JS.retI (pc1 := 58) (JX.ic (n := 1) rfl dX11_spoil_57) dX11_spoil_58)))))
def mX11_spoil : MS := runM 4 (some (.boolean)) bX11_spoil
theorem aX11_spoil : MA yX11_spoil cX11_spoil 4 (some (.boolean)) 6 mX11_spoil := MA.of (plainFor_of_name (by decide)) jX11_spoil
theorem eX11_spoil (a0 : Nat) (a1 : Int32) (a2 : Int32) (h : AH) : mX11_spoil [.ref a0, .int a1, .int a2] h = (bX11_spoil [.val (.ref a0), .val (.int a1), .val (.int a2), .unset] h).bind (finM (some (.boolean))) := rfl
/-! PieceStore.smash -/
theorem dX11_smash_0 : decode cX11_smash 0 = .ok (.aload_n 0, 1) := by decide +kernel
theorem dX11_smash_1 : decode cX11_smash 1 = .ok (.getfield 29, 3) := by decide +kernel
theorem dX11_smash_4 : decode cX11_smash 4 = .ok (.getfield 112, 3) := by decide +kernel
theorem dX11_smash_7 : decode cX11_smash 7 = .ok (.getfield 194, 3) := by decide +kernel
theorem dX11_smash_10 : decode cX11_smash 10 = .ok (.iload_n 1, 1) := by decide +kernel
theorem dX11_smash_11 : decode cX11_smash 11 = .ok (.invokevirtual 161, 3) := by decide +kernel
theorem dX11_smash_14 : decode cX11_smash 14 = .ok (.ifCond .eq 11, 3) := by decide +kernel
theorem dX11_smash_17 : decode cX11_smash 17 = .ok (.aload_n 0, 1) := by decide +kernel
theorem dX11_smash_18 : decode cX11_smash 18 = .ok (.iconst 3, 1) := by decide +kernel
theorem dX11_smash_19 : decode cX11_smash 19 = .ok (.invokevirtual 73, 3) := by decide +kernel
theorem dX11_smash_22 : decode cX11_smash 22 = .ok (.pop, 1) := by decide +kernel
theorem dX11_smash_23 : decode cX11_smash 23 = .ok (.iconst 0, 1) := by decide +kernel
theorem dX11_smash_24 : decode cX11_smash 24 = .ok (.ireturn, 1) := by decide +kernel
theorem dX11_smash_25 : decode cX11_smash 25 = .ok (.aload_n 0, 1) := by decide +kernel
theorem dX11_smash_26 : decode cX11_smash 26 = .ok (.getfield 29, 3) := by decide +kernel
theorem dX11_smash_29 : decode cX11_smash 29 = .ok (.invokevirtual 286, 3) := by decide +kernel
theorem dX11_smash_32 : decode cX11_smash 32 = .ok (.aload_n 0, 1) := by decide +kernel
theorem dX11_smash_33 : decode cX11_smash 33 = .ok (.getfield 29, 3) := by decide +kernel
theorem dX11_smash_36 : decode cX11_smash 36 = .ok (.getfield 112, 3) := by decide +kernel
theorem dX11_smash_39 : decode cX11_smash 39 = .ok (.getfield 194, 3) := by decide +kernel
theorem dX11_smash_42 : decode cX11_smash 42 = .ok (.iload_n 1, 1) := by decide +kernel
theorem dX11_smash_43 : decode cX11_smash 43 = .ok (.iconst 1, 1) := by decide +kernel
theorem dX11_smash_44 : decode cX11_smash 44 = .ok (.invokevirtual 228, 3) := by decide +kernel
theorem dX11_smash_47 : decode cX11_smash 47 = .ok (.iconst 1, 1) := by decide +kernel
theorem dX11_smash_48 : decode cX11_smash 48 = .ok (.ireturn, 1) := by decide +kernel
abbrev MX11_smash : MI := (RX11, cX11_smash, 2, 6, false)
def bX11_smash : St := (seqS (ifS (ne0 (calX decI (ckV 5 1) mX5_at (agC va_rf (getR 9 6 (getR 10 10 (getR 11 3 (lvR 0)))) (agC Value.int (lvI 1) agN)))) (seqS (exS (calX decI (ckV 11 1) mX11_refuse (agC va_rf (lvR 0) (agC Value.int (ciI (iI 3)) agN)))) (retI (ciI (iI 0))))) (seqS (calS (ckV 10 0) mX10_remember (agC va_rf (getR 11 3 (lvR 0)) agN)) (seqS (calS (ckV 5 2) mX5_put (agC va_rf (getR 9 6 (getR 10 10 (getR 11 3 (lvR 0)))) (agC Value.int (lvI 1) (agC Value.int (ciI (iI 1)) agN)))) (retI (ciI (iI 1))))))
theorem jX11_smash : JS MX11_smash 0 0 0 49 [] bX11_smash :=
  (JS.seq (pc1 := 25) (JS.iff (l := 25) (pc1 := 17) (CJ.ne0_f (tgt := 25) (pc1 := 14) (JX.call (pc1 := 11) decI_ok (JA.r (JX.getR (pc1 := 7) (c := 9) (k := 6) (i := 194) (JX.getR (pc1 := 4) (c := 10) (k := 10) (i := 112) (JX.getR (pc1 := 1) (c := 11) (k := 3) (i := 29) (JX.al (k := 0) rfl dX11_smash_0) cl11 (by decide) rfl fk11_29 dX11_smash_1) cl10 (by decide) rfl fk11_112 dX11_smash_4) cl9 (by decide) rfl fk11_194 dX11_smash_7) (JA.i (JX.il (k := 1) rfl dX11_smash_10) JA.nil)) aX5_at (RunK.V (i := 161) (c := 5) (n := 1) cl5 rfl (CN nX5_at (by decide) (by decide)) gw594 gw595 gw596 dX11_smash_11) (by decide)) dX11_smash_14 rfl) (JS.seq (pc1 := 23) (JS.pop (pc1 := 22) (JX.call (pc1 := 19) decI_ok (JA.r (JX.al (k := 0) rfl dX11_smash_17) (JA.i (JX.ic (n := 3) rfl dX11_smash_18) JA.nil)) aX11_refuse (RunK.V (i := 73) (c := 11) (n := 1) cl11 rfl (CN nX11_refuse (by decide) (by decide)) gw590 gw592 gs1 dX11_smash_19) (by decide)) (fun _ => rfl) dX11_smash_22) (JS.retI (pc1 := 24) (JX.ic (n := 0) rfl dX11_smash_23) dX11_smash_24)) (Or.inl rfl)) (JS.seq (pc1 := 32) (JS.call (pc1 := 29) (JA.r (JX.getR (pc1 := 26) (c := 11) (k := 3) (i := 29) (JX.al (k := 0) rfl dX11_smash_25) cl11 (by decide) rfl fk11_29 dX11_smash_26) JA.nil) aX10_remember (RunK.V (i := 286) (c := 10) (n := 0) cl10 rfl (CN nX10_remember (by decide) (by decide)) gw1232 gw1159 gw1160 dX11_smash_29)) (JS.seq (pc1 := 47) (JS.call (pc1 := 44) (JA.r (JX.getR (pc1 := 39) (c := 9) (k := 6) (i := 194) (JX.getR (pc1 := 36) (c := 10) (k := 10) (i := 112) (JX.getR (pc1 := 33) (c := 11) (k := 3) (i := 29) (JX.al (k := 0) rfl dX11_smash_32) cl11 (by decide) rfl fk11_29 dX11_smash_33) cl10 (by decide) rfl fk11_112 dX11_smash_36) cl9 (by decide) rfl fk11_194 dX11_smash_39) (JA.i (JX.il (k := 1) rfl dX11_smash_42) (JA.i (JX.ic (n := 1) rfl dX11_smash_43) JA.nil))) aX5_put (RunK.V (i := 228) (c := 5) (n := 2) cl5 rfl (CN nX5_put (by decide) (by decide)) gw598 gw599 gw600 dX11_smash_44)) (JS.retI (pc1 := 48) (JX.ic (n := 1) rfl dX11_smash_47) dX11_smash_48))))
def mX11_smash : MS := runM 2 (some (.boolean)) bX11_smash
theorem aX11_smash : MA yX11_smash cX11_smash 2 (some (.boolean)) 6 mX11_smash := MA.of (plainFor_of_name (by decide)) jX11_smash
theorem eX11_smash (a0 : Nat) (a1 : Int32) (h : AH) : mX11_smash [.ref a0, .int a1] h = (bX11_smash [.val (.ref a0), .val (.int a1)] h).bind (finM (some (.boolean))) := rfl
