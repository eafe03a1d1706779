/-! ===== by program: mk20.py: methods ===== -/
/-! Saver.untell -/
theorem dX7_untell_0 : decode cX7_untell 0 = .ok (.aload_n 0, 1) := by decide +kernel
theorem dX7_untell_1 : decode cX7_untell 1 = .ok (.getfield 12, 3) := by decide +kernel
theorem dX7_untell_4 : decode cX7_untell 4 = .ok (.invokevirtual 38, 3) := by decide +kernel
theorem dX7_untell_7 : decode cX7_untell 7 = .ok (.iconst 1, 1) := by decide +kernel
theorem dX7_untell_8 : decode cX7_untell 8 = .ok (.isub, 1) := by decide +kernel
theorem dX7_untell_9 : decode cX7_untell 9 = .ok (.istore_n 3, 1) := by decide +kernel
theorem dX7_untell_10 : decode cX7_untell 10 = .ok (.iload_n 3, 1) := by decide +kernel
theorem dX7_untell_11 : decode cX7_untell 11 = .ok (.iload_n 2, 1) := by decide +kernel
theorem dX7_untell_12 : decode cX7_untell 12 = .ok (.if_icmp .lt 55, 3) := by decide +kernel
theorem dX7_untell_15 : decode cX7_untell 15 = .ok (.aload_n 0, 1) := by decide +kernel
theorem dX7_untell_16 : decode cX7_untell 16 = .ok (.getfield 12, 3) := by decide +kernel
theorem dX7_untell_19 : decode cX7_untell 19 = .ok (.iload_n 3, 1) := by decide +kernel
theorem dX7_untell_20 : decode cX7_untell 20 = .ok (.invokevirtual 74, 3) := by decide +kernel
theorem dX7_untell_23 : decode cX7_untell 23 = .ok (.bipush (-2), 2) := by decide +kernel
theorem dX7_untell_25 : decode cX7_untell 25 = .ok (.if_icmp .eq 36, 3) := by decide +kernel
theorem dX7_untell_28 : decode cX7_untell 28 = .ok (.aload_n 1, 1) := by decide +kernel
theorem dX7_untell_29 : decode cX7_untell 29 = .ok (.getfield 49, 3) := by decide +kernel
theorem dX7_untell_32 : decode cX7_untell 32 = .ok (.getfield 130, 3) := by decide +kernel
theorem dX7_untell_35 : decode cX7_untell 35 = .ok (.aload_n 1, 1) := by decide +kernel
theorem dX7_untell_36 : decode cX7_untell 36 = .ok (.getfield 143, 3) := by decide +kernel
theorem dX7_untell_39 : decode cX7_untell 39 = .ok (.aload_n 1, 1) := by decide +kernel
theorem dX7_untell_40 : decode cX7_untell 40 = .ok (.getfield 42, 3) := by decide +kernel
theorem dX7_untell_43 : decode cX7_untell 43 = .ok (.iload_n 3, 1) := by decide +kernel
theorem dX7_untell_44 : decode cX7_untell 44 = .ok (.invokevirtual 74, 3) := by decide +kernel
theorem dX7_untell_47 : decode cX7_untell 47 = .ok (.invokevirtual 74, 3) := by decide +kernel
theorem dX7_untell_50 : decode cX7_untell 50 = .ok (.aload_n 0, 1) := by decide +kernel
theorem dX7_untell_51 : decode cX7_untell 51 = .ok (.getfield 12, 3) := by decide +kernel
theorem dX7_untell_54 : decode cX7_untell 54 = .ok (.iload_n 3, 1) := by decide +kernel
theorem dX7_untell_55 : decode cX7_untell 55 = .ok (.invokevirtual 74, 3) := by decide +kernel
theorem dX7_untell_58 : decode cX7_untell 58 = .ok (.invokevirtual 152, 3) := by decide +kernel
theorem dX7_untell_61 : decode cX7_untell 61 = .ok (.iinc 3 (-1), 3) := by decide +kernel
theorem dX7_untell_64 : decode cX7_untell 64 = .ok (.goto (-54), 3) := by decide +kernel
theorem dX7_untell_67 : decode cX7_untell 67 = .ok (.aload_n 0, 1) := by decide +kernel
theorem dX7_untell_68 : decode cX7_untell 68 = .ok (.getfield 12, 3) := by decide +kernel
theorem dX7_untell_71 : decode cX7_untell 71 = .ok (.iload_n 2, 1) := by decide +kernel
theorem dX7_untell_72 : decode cX7_untell 72 = .ok (.invokevirtual 156, 3) := by decide +kernel
theorem dX7_untell_75 : decode cX7_untell 75 = .ok (.return_, 1) := by decide +kernel
abbrev MX7_untell : MI := (RX7, cX7_untell, 4, 2, false)
def lcX7_untell_1 : Ex Bool := (geI (lvI 3) (lvI 2))
def lbX7_untell_1 : St := (forB (ifS (neI (calX decI (ckV 5 1) mX5_at (agC va_rf (getR 7 0 (lvR 0)) (agC Value.int (lvI 3) agN))) (ciI (iI (-2)))) (calS (ckV 5 2) mX5_put (agC va_rf (getR 3 6 (getR 10 2 (lvR 1))) (agC Value.int (calX decI (ckV 5 1) mX5_at (agC va_rf (getR 10 4 (lvR 1)) (agC Value.int (calX decI (ckV 5 1) mX5_at (agC va_rf (getR 10 6 (lvR 1)) (agC Value.int (lvI 3) agN))) agN))) (agC Value.int (calX decI (ckV 5 1) mX5_at (agC va_rf (getR 7 0 (lvR 0)) (agC Value.int (lvI 3) agN))) agN))))) (incI 3 (iI (-1))))
def bX7_untell : St := (seqS (scS 3 (seqS (lsI 3 (subI (calX decI (ckV 5 0) mX5_size (agC va_rf (getR 7 0 (lvR 0)) agN)) (ciI (iI 1)))) (whileS lcX7_untell_1 lbX7_untell_1))) (seqS (calS (ckV 5 1) mX5_cutTo (agC va_rf (getR 7 0 (lvR 0)) (agC Value.int (lvI 2) agN))) retV))
theorem jX7_untell : JS MX7_untell 0 0 0 76 [] bX7_untell :=
  (JS.seq (pc1 := 67) (JS.sc (JS.seq (pc1 := 10) (JS.is (pc1 := 9) (k := 3) (JX.isub (pc1 := 7) (pc2 := 8) (JX.call (pc1 := 4) decI_ok (JA.r (JX.getR (pc1 := 1) (c := 7) (k := 0) (i := 12) (JX.al (k := 0) rfl dX7_untell_0) cl7 (by decide) rfl fk7_12 dX7_untell_1) JA.nil) aX5_size (RunK.V (i := 38) (c := 5) (n := 0) cl5 rfl (CN nX5_size (by decide) (by decide)) gw1173 gw587 gw588 dX7_untell_4) (by decide)) (JX.ic (n := 1) rfl dX7_untell_7) dX7_untell_8) rfl (show 3 < 4 by decide) dX7_untell_9) (JS.while (l := 67) (lb := 67) (pc1 := 15) (pc2 := 64) (pc3 := 67) (CJ.ge_f (tgt := 67) (pc1 := 11) (pc2 := 12) (JX.il (k := 3) rfl dX7_untell_10) (JX.il (k := 2) rfl dX7_untell_11) dX7_untell_12 rfl) (JS.forb (pc1 := 61) (JS.iff (l := 61) (pc1 := 28) (CJ.ne_f (tgt := 61) (pc1 := 23) (pc2 := 25) (JX.call (pc1 := 20) decI_ok (JA.r (JX.getR (pc1 := 16) (c := 7) (k := 0) (i := 12) (JX.al (k := 0) rfl dX7_untell_15) cl7 (by decide) rfl fk7_12 dX7_untell_16) (JA.i (JX.il (k := 3) rfl dX7_untell_19) JA.nil)) aX5_at (RunK.V (i := 74) (c := 5) (n := 1) cl5 rfl (CN nX5_at (by decide) (by decide)) gw1188 gw595 gw596 dX7_untell_20) (by decide)) (JX.bp (n := (-2)) kbm2 dX7_untell_23) dX7_untell_25 rfl) (JS.call (pc1 := 58) (JA.r (JX.getR (pc1 := 32) (c := 3) (k := 6) (i := 130) (JX.getR (pc1 := 29) (c := 10) (k := 2) (i := 49) (JX.al (k := 1) rfl dX7_untell_28) cl10 (by decide) rfl fk7_49 dX7_untell_29) cl3 (by decide) rfl fk7_130 dX7_untell_32) (JA.i (JX.call (pc1 := 47) decI_ok (JA.r (JX.getR (pc1 := 36) (c := 10) (k := 4) (i := 143) (JX.al (k := 1) rfl dX7_untell_35) cl10 (by decide) rfl fk7_143 dX7_untell_36) (JA.i (JX.call (pc1 := 44) decI_ok (JA.r (JX.getR (pc1 := 40) (c := 10) (k := 6) (i := 42) (JX.al (k := 1) rfl dX7_untell_39) cl10 (by decide) rfl fk7_42 dX7_untell_40) (JA.i (JX.il (k := 3) rfl dX7_untell_43) JA.nil)) aX5_at (RunK.V (i := 74) (c := 5) (n := 1) cl5 rfl (CN nX5_at (by decide) (by decide)) gw1188 gw595 gw596 dX7_untell_44) (by decide)) JA.nil)) aX5_at (RunK.V (i := 74) (c := 5) (n := 1) cl5 rfl (CN nX5_at (by decide) (by decide)) gw1188 gw595 gw596 dX7_untell_47) (by decide)) (JA.i (JX.call (pc1 := 55) decI_ok (JA.r (JX.getR (pc1 := 51) (c := 7) (k := 0) (i := 12) (JX.al (k := 0) rfl dX7_untell_50) cl7 (by decide) rfl fk7_12 dX7_untell_51) (JA.i (JX.il (k := 3) rfl dX7_untell_54) JA.nil)) aX5_at (RunK.V (i := 74) (c := 5) (n := 1) cl5 rfl (CN nX5_at (by decide) (by decide)) gw1188 gw595 gw596 dX7_untell_55) (by decide)) JA.nil))) aX5_put (RunK.V (i := 152) (c := 5) (n := 2) cl5 rfl (CN nX5_put (by decide) (by decide)) gw1227 gw599 gw600 dX7_untell_58)) (Or.inl rfl)) (JS.inc (n := (-1)) rfl (show 3 < 4 by decide) dX7_untell_61)) dX7_untell_64 rfl (Or.inl rfl) (Or.inl rfl)))) (JS.seq (pc1 := 75) (JS.call (pc1 := 72) (JA.r (JX.getR (pc1 := 68) (c := 7) (k := 0) (i := 12) (JX.al (k := 0) rfl dX7_untell_67) cl7 (by decide) rfl fk7_12 dX7_untell_68) (JA.i (JX.il (k := 2) rfl dX7_untell_71) JA.nil)) aX5_cutTo (RunK.V (i := 156) (c := 5) (n := 1) cl5 rfl (CN nX5_cutTo (by decide) (by decide)) gw1289 gw612 gw613 dX7_untell_72)) (JS.retV dX7_untell_75)))
def mX7_untell : MS := runM 4 none bX7_untell
theorem aX7_untell : MA yX7_untell cX7_untell 4 none 2 mX7_untell := MA.of (plainFor_of_name (by decide)) jX7_untell
theorem eX7_untell (a0 : Nat) (a1 : Nat) (a2 : Int32) (h : AH) : mX7_untell [.ref a0, .ref a1, .int a2] h = (bX7_untell [.val (.ref a0), .val (.ref a1), .val (.int a2), .unset] h).bind (finM none) := rfl
/-! Vault.goBack -/
theorem dX10_goBack_0 : decode cX10_goBack 0 = .ok (.aload_n 0, 1) := by decide +kernel
theorem dX10_goBack_1 : decode cX10_goBack 1 = .ok (.getfield 75, 3) := by decide +kernel
theorem dX10_goBack_4 : decode cX10_goBack 4 = .ok (.bipush 20, 2) := by decide +kernel
theorem dX10_goBack_6 : decode cX10_goBack 6 = .ok (.iadd, 1) := by decide +kernel
theorem dX10_goBack_7 : decode cX10_goBack 7 = .ok (.iconst 1, 1) := by decide +kernel
theorem dX10_goBack_8 : decode cX10_goBack 8 = .ok (.isub, 1) := by decide +kernel
theorem dX10_goBack_9 : decode cX10_goBack 9 = .ok (.bipush 20, 2) := by decide +kernel
theorem dX10_goBack_11 : decode cX10_goBack 11 = .ok (.irem, 1) := by decide +kernel
theorem dX10_goBack_12 : decode cX10_goBack 12 = .ok (.istore_n 1, 1) := by decide +kernel
theorem dX10_goBack_13 : decode cX10_goBack 13 = .ok (.aload_n 0, 1) := by decide +kernel
theorem dX10_goBack_14 : decode cX10_goBack 14 = .ok (.getfield 79, 3) := by decide +kernel
theorem dX10_goBack_17 : decode cX10_goBack 17 = .ok (.ifCond .eq 25, 3) := by decide +kernel
theorem dX10_goBack_20 : decode cX10_goBack 20 = .ok (.iload_n 1, 1) := by decide +kernel
theorem dX10_goBack_21 : decode cX10_goBack 21 = .ok (.ifCond .lt 21, 3) := by decide +kernel
theorem dX10_goBack_24 : decode cX10_goBack 24 = .ok (.iload_n 1, 1) := by decide +kernel
theorem dX10_goBack_25 : decode cX10_goBack 25 = .ok (.aload_n 0, 1) := by decide +kernel
theorem dX10_goBack_26 : decode cX10_goBack 26 = .ok (.getfield 71, 3) := by decide +kernel
theorem dX10_goBack_29 : decode cX10_goBack 29 = .ok (.arraylength, 1) := by decide +kernel
theorem dX10_goBack_30 : decode cX10_goBack 30 = .ok (.if_icmp .ge 12, 3) := by decide +kernel
theorem dX10_goBack_33 : decode cX10_goBack 33 = .ok (.aload_n 0, 1) := by decide +kernel
theorem dX10_goBack_34 : decode cX10_goBack 34 = .ok (.getfield 71, 3) := by decide +kernel
theorem dX10_goBack_37 : decode cX10_goBack 37 = .ok (.iload_n 1, 1) := by decide +kernel
theorem dX10_goBack_38 : decode cX10_goBack 38 = .ok (.aaload, 1) := by decide +kernel
theorem dX10_goBack_39 : decode cX10_goBack 39 = .ok (.ifnonnull 5, 3) := by decide +kernel
theorem dX10_goBack_42 : decode cX10_goBack 42 = .ok (.iconst 0, 1) := by decide +kernel
theorem dX10_goBack_43 : decode cX10_goBack 43 = .ok (.ireturn, 1) := by decide +kernel
theorem dX10_goBack_44 : decode cX10_goBack 44 = .ok (.aload_n 0, 1) := by decide +kernel
theorem dX10_goBack_45 : decode cX10_goBack 45 = .ok (.getfield 71, 3) := by decide +kernel
theorem dX10_goBack_48 : decode cX10_goBack 48 = .ok (.iload_n 1, 1) := by decide +kernel
theorem dX10_goBack_49 : decode cX10_goBack 49 = .ok (.aaload, 1) := by decide +kernel
theorem dX10_goBack_50 : decode cX10_goBack 50 = .ok (.astore_n 2, 1) := by decide +kernel
theorem dX10_goBack_51 : decode cX10_goBack 51 = .ok (.aload_n 0, 1) := by decide +kernel
theorem dX10_goBack_52 : decode cX10_goBack 52 = .ok (.getfield 35, 3) := by decide +kernel
theorem dX10_goBack_55 : decode cX10_goBack 55 = .ok (.aload_n 0, 1) := by decide +kernel
theorem dX10_goBack_56 : decode cX10_goBack 56 = .ok (.aload_n 2, 1) := by decide +kernel
theorem dX10_goBack_57 : decode cX10_goBack 57 = .ok (.getfield 231, 3) := by decide +kernel
theorem dX10_goBack_60 : decode cX10_goBack 60 = .ok (.invokevirtual 234, 3) := by decide +kernel
theorem dX10_goBack_63 : decode cX10_goBack 63 = .ok (.aload_n 0, 1) := by decide +kernel
theorem dX10_goBack_64 : decode cX10_goBack 64 = .ok (.getfield 49, 3) := by decide +kernel
theorem dX10_goBack_67 : decode cX10_goBack 67 = .ok (.aload_n 2, 1) := by decide +kernel
theorem dX10_goBack_68 : decode cX10_goBack 68 = .ok (.getfield 231, 3) := by decide +kernel
theorem dX10_goBack_71 : decode cX10_goBack 71 = .ok (.invokevirtual 238, 3) := by decide +kernel
theorem dX10_goBack_74 : decode cX10_goBack 74 = .ok (.aload_n 0, 1) := by decide +kernel
theorem dX10_goBack_75 : decode cX10_goBack 75 = .ok (.getfield 52, 3) := by decide +kernel
theorem dX10_goBack_78 : decode cX10_goBack 78 = .ok (.aload_n 2, 1) := by decide +kernel
theorem dX10_goBack_79 : decode cX10_goBack 79 = .ok (.getfield 241, 3) := by decide +kernel
theorem dX10_goBack_82 : decode cX10_goBack 82 = .ok (.invokevirtual 238, 3) := by decide +kernel
theorem dX10_goBack_85 : decode cX10_goBack 85 = .ok (.aload_n 0, 1) := by decide +kernel
theorem dX10_goBack_86 : decode cX10_goBack 86 = .ok (.aload_n 2, 1) := by decide +kernel
theorem dX10_goBack_87 : decode cX10_goBack 87 = .ok (.invokevirtual 244, 3) := by decide +kernel
theorem dX10_goBack_90 : decode cX10_goBack 90 = .ok (.aload_n 0, 1) := by decide +kernel
theorem dX10_goBack_91 : decode cX10_goBack 91 = .ok (.iload_n 1, 1) := by decide +kernel
theorem dX10_goBack_92 : decode cX10_goBack 92 = .ok (.putfield 75, 3) := by decide +kernel
theorem dX10_goBack_95 : decode cX10_goBack 95 = .ok (.aload_n 0, 1) := by decide +kernel
theorem dX10_goBack_96 : decode cX10_goBack 96 = .ok (.dup, 1) := by decide +kernel
theorem dX10_goBack_97 : decode cX10_goBack 97 = .ok (.getfield 79, 3) := by decide +kernel
theorem dX10_goBack_100 : decode cX10_goBack 100 = .ok (.iconst 1, 1) := by decide +kernel
theorem dX10_goBack_101 : decode cX10_goBack 101 = .ok (.isub, 1) := by decide +kernel
theorem dX10_goBack_102 : decode cX10_goBack 102 = .ok (.putfield 79, 3) := by decide +kernel
theorem dX10_goBack_105 : decode cX10_goBack 105 = .ok (.iconst 1, 1) := by decide +kernel
theorem dX10_goBack_106 : decode cX10_goBack 106 = .ok (.ireturn, 1) := by decide +kernel
abbrev MX10_goBack : MI := (RX10, cX10_goBack, 3, 6, false)
def bX10_goBack : St := (seqS (lsI 1 (remI (subI (addI (getI 10 13 (lvR 0)) (ciI (iI 20))) (ciI (iI 1))) (ciI (iI 20)))) (seqS (ifS (orX (orX (orX (eq0 (getI 10 14 (lvR 0))) (lt0 (lvI 1))) (geI (lvI 1) (alnI (getR 10 12 (lvR 0))))) (nulX (aldR (getR 10 12 (lvR 0)) (lvI 1)))) (retI (ciI (iI 0)))) (seqS (lsR 2 (aldR (getR 10 12 (lvR 0)) (lvI 1))) (seqS (calS (ckV 7 2) mX7_untell (agC va_rf (getR 10 3 (lvR 0)) (agC va_rf (lvR 0) (agC Value.int (getI 9 13 (lvR 2)) agN)))) (seqS (calS (ckV 5 1) mX5_cutTo (agC va_rf (getR 10 6 (lvR 0)) (agC Value.int (getI 9 13 (lvR 2)) agN))) (seqS (calS (ckV 5 1) mX5_cutTo (agC va_rf (getR 10 7 (lvR 0)) (agC Value.int (getI 9 14 (lvR 2)) agN))) (seqS (calS (ckV 10 1) mX10_becomes (agC va_rf (lvR 0) (agC va_rf (lvR 2) agN))) (seqS (putI 10 13 (lvR 0) (lvI 1)) (seqS (updI 10 14 (fun x y => x - y) (lvR 0) (ciI (iI 1))) (retI (ciI (iI 1))))))))))))
theorem jX10_goBack : JS MX10_goBack 0 0 0 107 [] bX10_goBack :=
  (JS.seq (pc1 := 13) (JS.is (pc1 := 12) (k := 1) (JX.irem (pc1 := 9) (pc2 := 11) (JX.isub (pc1 := 7) (pc2 := 8) (JX.iadd (pc1 := 4) (pc2 := 6) (JX.getI (pc1 := 1) (c := 10) (k := 13) (i := 75) (JX.al (k := 0) rfl dX10_goBack_0) cl10 (by decide) rfl fk10_75 dX10_goBack_1) (JX.bp (n := 20) kb20 dX10_goBack_4) dX10_goBack_6) (JX.ic (n := 1) rfl dX10_goBack_7) dX10_goBack_8) (JX.bp (n := 20) kb20 dX10_goBack_9) dX10_goBack_11) rfl (show 1 < 3 by decide) dX10_goBack_12) (JS.seq (pc1 := 44) (JS.iff (l := 44) (pc1 := 42) (CJ.or_f (l := 42) (pc1 := 33) (CJ.or_t (pc1 := 24) (CJ.or_t (pc1 := 20) (CJ.eq0_t (tgt := 42) (pc1 := 17) (JX.getI (pc1 := 14) (c := 10) (k := 14) (i := 79) (JX.al (k := 0) rfl dX10_goBack_13) cl10 (by decide) rfl fk10_79 dX10_goBack_14) dX10_goBack_17 rfl) (CJ.lt0_t (tgt := 42) (pc1 := 21) (JX.il (k := 1) rfl dX10_goBack_20) dX10_goBack_21 rfl)) (CJ.ge_t (tgt := 42) (pc1 := 25) (pc2 := 30) (JX.il (k := 1) rfl dX10_goBack_24) (JX.aln (pc1 := 29) (JX.getR (pc1 := 26) (c := 10) (k := 12) (i := 71) (JX.al (k := 0) rfl dX10_goBack_25) cl10 (by decide) rfl fk10_71 dX10_goBack_26) dX10_goBack_29) dX10_goBack_30 rfl)) (CJ.null_f (tgt := 44) (pc1 := 39) (JX.aald (pc1 := 37) (pc2 := 38) (JX.getR (pc1 := 34) (c := 10) (k := 12) (i := 71) (JX.al (k := 0) rfl dX10_goBack_33) cl10 (by decide) rfl fk10_71 dX10_goBack_34) (JX.il (k := 1) rfl dX10_goBack_37) dX10_goBack_38) dX10_goBack_39 rfl) (Or.inl rfl)) (JS.retI (pc1 := 43) (JX.ic (n := 0) rfl dX10_goBack_42) dX10_goBack_43) (Or.inl rfl)) (JS.seq (pc1 := 51) (JS.as (pc1 := 50) (k := 2) (JX.aald (pc1 := 48) (pc2 := 49) (JX.getR (pc1 := 45) (c := 10) (k := 12) (i := 71) (JX.al (k := 0) rfl dX10_goBack_44) cl10 (by decide) rfl fk10_71 dX10_goBack_45) (JX.il (k := 1) rfl dX10_goBack_48) dX10_goBack_49) rfl (show 2 < 3 by decide) dX10_goBack_50) (JS.seq (pc1 := 63) (JS.call (pc1 := 60) (JA.r (JX.getR (pc1 := 52) (c := 10) (k := 3) (i := 35) (JX.al (k := 0) rfl dX10_goBack_51) cl10 (by decide) rfl fk10_35 dX10_goBack_52) (JA.r (JX.al (k := 0) rfl dX10_goBack_55) (JA.i (JX.getI (pc1 := 57) (c := 9) (k := 13) (i := 231) (JX.al (k := 2) rfl dX10_goBack_56) cl9 (by decide) rfl fk10_231 dX10_goBack_57) JA.nil))) aX7_untell (RunK.V (i := 234) (c := 7) (n := 2) cl7 rfl (CN nX7_untell (by decide) (by decide)) gw1285 gw1286 gw1287 dX10_goBack_60)) (JS.seq (pc1 := 74) (JS.call (pc1 := 71) (JA.r (JX.getR (pc1 := 64) (c := 10) (k := 6) (i := 49) (JX.al (k := 0) rfl dX10_goBack_63) cl10 (by decide) rfl fk10_49 dX10_goBack_64) (JA.i (JX.getI (pc1 := 68) (c := 9) (k := 13) (i := 231) (JX.al (k := 2) rfl dX10_goBack_67) cl9 (by decide) rfl fk10_231 dX10_goBack_68) JA.nil)) aX5_cutTo (RunK.V (i := 238) (c := 5) (n := 1) cl5 rfl (CN nX5_cutTo (by decide) (by decide)) gw1290 gw612 gw613 dX10_goBack_71)) (JS.seq (pc1 := 85) (JS.call (pc1 := 82) (JA.r (JX.getR (pc1 := 75) (c := 10) (k := 7) (i := 52) (JX.al (k := 0) rfl dX10_goBack_74) cl10 (by decide) rfl fk10_52 dX10_goBack_75) (JA.i (JX.getI (pc1 := 79) (c := 9) (k := 14) (i := 241) (JX.al (k := 2) rfl dX10_goBack_78) cl9 (by decide) rfl fk10_241 dX10_goBack_79) JA.nil)) aX5_cutTo (RunK.V (i := 238) (c := 5) (n := 1) cl5 rfl (CN nX5_cutTo (by decide) (by decide)) gw1290 gw612 gw613 dX10_goBack_82)) (JS.seq (pc1 := 90) (JS.call (pc1 := 87) (JA.r (JX.al (k := 0) rfl dX10_goBack_85) (JA.r (JX.al (k := 2) rfl dX10_goBack_86) JA.nil)) aX10_becomes (RunK.V (i := 244) (c := 10) (n := 1) cl10 rfl (CN nX10_becomes (by decide) (by decide)) gw1291 gw1266 gw1267 dX10_goBack_87)) (JS.seq (pc1 := 95) (JS.pI (pc1 := 91) (pc2 := 92) (c := 10) (k := 13) (i := 75) (JX.al (k := 0) rfl dX10_goBack_90) (JX.il (k := 1) rfl dX10_goBack_91) cl10 (by decide) rfl fk10_75 (Or.inl rfl) dX10_goBack_92) (JS.seq (pc1 := 105) (JS.upS (pc1 := 96) (pc2 := 101) (c := 10) (k := 14) (i := 79) (JX.al (k := 0) rfl dX10_goBack_95) dX10_goBack_96 cl10 (by decide) rfl fk10_79 (Or.inl rfl) dX10_goBack_97 (JX.ic (n := 1) rfl dX10_goBack_100) dX10_goBack_101 dX10_goBack_102) (JS.retI (pc1 := 106) (JX.ic (n := 1) rfl dX10_goBack_105) dX10_goBack_106))))))))))
def mX10_goBack : MS := runM 3 (some (.boolean)) bX10_goBack
theorem aX10_goBack : MA yX10_goBack cX10_goBack 3 (some (.boolean)) 6 mX10_goBack := MA.of (plainFor_of_name (by decide)) jX10_goBack
theorem eX10_goBack (a0 : Nat) (h : AH) : mX10_goBack [.ref a0] h = (bX10_goBack [.val (.ref a0), .unset, .unset] h).bind (finM (some (.boolean))) := rfl
/-! PieceStore.undo -/
theorem dX11_undo_0 : decode cX11_undo 0 = .ok (.aload_n 0, 1) := by decide +kernel
theorem dX11_undo_1 : decode cX11_undo 1 = .ok (.getfield 29, 3) := by decide +kernel
theorem dX11_undo_4 : decode cX11_undo 4 = .ok (.invokevirtual 302, 3) := by decide +kernel
theorem dX11_undo_7 : decode cX11_undo 7 = .ok (.ifCond .ne 11, 3) := by decide +kernel
theorem dX11_undo_10 : decode cX11_undo 10 = .ok (.aload_n 0, 1) := by decide +kernel
theorem dX11_undo_11 : decode cX11_undo 11 = .ok (.iconst 4, 1) := by decide +kernel
theorem dX11_undo_12 : decode cX11_undo 12 = .ok (.invokevirtual 73, 3) := by decide +kernel
theorem dX11_undo_15 : decode cX11_undo 15 = .ok (.pop, 1) := by decide +kernel
theorem dX11_undo_16 : decode cX11_undo 16 = .ok (.iconst 0, 1) := by decide +kernel
theorem dX11_undo_17 : decode cX11_undo 17 = .ok (.ireturn, 1) := by decide +kernel
theorem dX11_undo_18 : decode cX11_undo 18 = .ok (.iconst 1, 1) := by decide +kernel
theorem dX11_undo_19 : decode cX11_undo 19 = .ok (.ireturn, 1) := by decide +kernel
abbrev MX11_undo : MI := (RX11, cX11_undo, 1, 7, false)
def bX11_undo : St := (seqS (ifS (notX (ne0 (calX decI (ckV 10 0) mX10_goBack (agC va_rf (getR 11 3 (lvR 0)) agN)))) (seqS (exS (calX decI (ckV 11 1) mX11_refuse (agC va_rf (lvR 0) (agC Value.int (ciI (iI 4)) agN)))) (retI (ciI (iI 0))))) (retI (ciI (iI 1))))
theorem jX11_undo : JS MX11_undo 0 0 0 20 [] bX11_undo :=
  (JS.seq (pc1 := 18) (JS.iff (l := 18) (pc1 := 10) (CJ.not_f (CJ.ne0_t (tgt := 18) (pc1 := 7) (JX.call (pc1 := 4) decI_ok (JA.r (JX.getR (pc1 := 1) (c := 11) (k := 3) (i := 29) (JX.al (k := 0) rfl dX11_undo_0) cl11 (by decide) rfl fk11_29 dX11_undo_1) JA.nil) aX10_goBack (RunK.V (i := 302) (c := 10) (n := 0) cl10 rfl (CN nX10_goBack (by decide) (by decide)) gw1281 gw1282 gw1283 dX11_undo_4) (by decide)) dX11_undo_7 rfl)) (JS.seq (pc1 := 16) (JS.pop (pc1 := 15) (JX.call (pc1 := 12) decI_ok (JA.r (JX.al (k := 0) rfl dX11_undo_10) (JA.i (JX.ic (n := 4) rfl dX11_undo_11) JA.nil)) aX11_refuse (RunK.V (i := 73) (c := 11) (n := 1) cl11 rfl (CN nX11_refuse (by decide) (by decide)) gw590 gw592 gs1 dX11_undo_12) (by decide)) (fun _ => rfl) dX11_undo_15) (JS.retI (pc1 := 17) (JX.ic (n := 0) rfl dX11_undo_16) dX11_undo_17)) (Or.inl rfl)) (JS.retI (pc1 := 19) (JX.ic (n := 1) rfl dX11_undo_18) dX11_undo_19))
def mX11_undo : MS := runM 1 (some (.boolean)) bX11_undo
theorem aX11_undo : MA yX11_undo cX11_undo 1 (some (.boolean)) 7 mX11_undo := MA.of (plainFor_of_name (by decide)) jX11_undo
theorem eX11_undo (a0 : Nat) (h : AH) : mX11_undo [.ref a0] h = (bX11_undo [.val (.ref a0)] h).bind (finM (some (.boolean))) := rfl
/-! PieceStore.seed -/
theorem dX11_seed_0 : decode cX11_seed 0 = .ok (.iload_n 1, 1) := by decide +kernel
theorem dX11_seed_1 : decode cX11_seed 1 = .ok (.ifCond .ge 11, 3) := by decide +kernel
theorem dX11_seed_4 : decode cX11_seed 4 = .ok (.aload_n 0, 1) := by decide +kernel
theorem dX11_seed_5 : decode cX11_seed 5 = .ok (.iconst 5, 1) := by decide +kernel
theorem dX11_seed_6 : decode cX11_seed 6 = .ok (.invokevirtual 73, 3) := by decide +kernel
theorem dX11_seed_9 : decode cX11_seed 9 = .ok (.pop, 1) := by decide +kernel
theorem dX11_seed_10 : decode cX11_seed 10 = .ok (.iconst 0, 1) := by decide +kernel
theorem dX11_seed_11 : decode cX11_seed 11 = .ok (.ireturn, 1) := by decide +kernel
theorem dX11_seed_12 : decode cX11_seed 12 = .ok (.aload_n 0, 1) := by decide +kernel
theorem dX11_seed_13 : decode cX11_seed 13 = .ok (.getfield 29, 3) := by decide +kernel
theorem dX11_seed_16 : decode cX11_seed 16 = .ok (.iload_n 1, 1) := by decide +kernel
theorem dX11_seed_17 : decode cX11_seed 17 = .ok (.putfield 151, 3) := by decide +kernel
theorem dX11_seed_20 : decode cX11_seed 20 = .ok (.iconst 1, 1) := by decide +kernel
theorem dX11_seed_21 : decode cX11_seed 21 = .ok (.ireturn, 1) := by decide +kernel
abbrev MX11_seed : MI := (RX11, cX11_seed, 2, 3, false)
def bX11_seed : St := (seqS (ifS (lt0 (lvI 1)) (seqS (exS (calX decI (ckV 11 1) mX11_refuse (agC va_rf (lvR 0) (agC Value.int (ciI (iI 5)) agN)))) (retI (ciI (iI 0))))) (seqS (putI 10 15 (getR 11 3 (lvR 0)) (lvI 1)) (retI (ciI (iI 1)))))
theorem jX11_seed : JS MX11_seed 0 0 0 22 [] bX11_seed :=
  (JS.seq (pc1 := 12) (JS.iff (l := 12) (pc1 := 4) (CJ.lt0_f (tgt := 12) (pc1 := 1) (JX.il (k := 1) rfl dX11_seed_0) dX11_seed_1 rfl) (JS.seq (pc1 := 10) (JS.pop (pc1 := 9) (JX.call (pc1 := 6) decI_ok (JA.r (JX.al (k := 0) rfl dX11_seed_4) (JA.i (JX.ic (n := 5) rfl dX11_seed_5) JA.nil)) aX11_refuse (RunK.V (i := 73) (c := 11) (n := 1) cl11 rfl (CN nX11_refuse (by decide) (by decide)) gw590 gw592 gs1 dX11_seed_6) (by decide)) (fun _ => rfl) dX11_seed_9) (JS.retI (pc1 := 11) (JX.ic (n := 0) rfl dX11_seed_10) dX11_seed_11)) (Or.inl rfl)) (JS.seq (pc1 := 20) (JS.pI (pc1 := 16) (pc2 := 17) (c := 10) (k := 15) (i := 151) (JX.getR (pc1 := 13) (c := 11) (k := 3) (i := 29) (JX.al (k := 0) rfl dX11_seed_12) cl11 (by decide) rfl fk11_29 dX11_seed_13) (JX.il (k := 1) rfl dX11_seed_16) cl10 (by decide) rfl fk11_151 (Or.inl rfl) dX11_seed_17) (JS.retI (pc1 := 21) (JX.ic (n := 1) rfl dX11_seed_20) dX11_seed_21)))
def mX11_seed : MS := runM 2 (some (.boolean)) bX11_seed
theorem aX11_seed : MA yX11_seed cX11_seed 2 (some (.boolean)) 3 mX11_seed := MA.of (plainFor_of_name (by decide)) jX11_seed
theorem eX11_seed (a0 : Nat) (a1 : Int32) (h : AH) : mX11_seed [.ref a0, .int a1] h = (bX11_seed [.val (.ref a0), .val (.int a1)] h).bind (finM (some (.boolean))) := rfl
/-! PieceStore.kept -/
theorem dX11_kept_0 : decode cX11_kept 0 = .ok (.aload_n 0, 1) := by decide +kernel
theorem dX11_kept_1 : decode cX11_kept 1 = .ok (.getfield 29, 3) := by decide +kernel
theorem dX11_kept_4 : decode cX11_kept 4 = .ok (.getfield 112, 3) := by decide +kernel
theorem dX11_kept_7 : decode cX11_kept 7 = .ok (.getfield 139, 3) := by decide +kernel
theorem dX11_kept_10 : decode cX11_kept 10 = .ok (.bipush 40, 2) := by decide +kernel
theorem dX11_kept_12 : decode cX11_kept 12 = .ok (.invokestatic 142, 3) := by decide +kernel
theorem dX11_kept_15 : decode cX11_kept 15 = .ok (.istore_n 3, 1) := by decide +kernel
theorem dX11_kept_16 : decode cX11_kept 16 = .ok (.iload_n 1, 1) := by decide +kernel
theorem dX11_kept_17 : decode cX11_kept 17 = .ok (.ifCond .lt 8, 3) := by decide +kernel
theorem dX11_kept_20 : decode cX11_kept 20 = .ok (.iload_n 1, 1) := by decide +kernel
theorem dX11_kept_21 : decode cX11_kept 21 = .ok (.iload_n 3, 1) := by decide +kernel
theorem dX11_kept_22 : decode cX11_kept 22 = .ok (.if_icmp .lt 5, 3) := by decide +kernel
theorem dX11_kept_25 : decode cX11_kept 25 = .ok (.iconst (-1), 1) := by decide +kernel
theorem dX11_kept_26 : decode cX11_kept 26 = .ok (.ireturn, 1) := by decide +kernel
theorem dX11_kept_27 : decode cX11_kept 27 = .ok (.aload_n 0, 1) := by decide +kernel
theorem dX11_kept_28 : decode cX11_kept 28 = .ok (.getfield 29, 3) := by decide +kernel
theorem dX11_kept_31 : decode cX11_kept 31 = .ok (.getfield 112, 3) := by decide +kernel
theorem dX11_kept_34 : decode cX11_kept 34 = .ok (.getfield 139, 3) := by decide +kernel
theorem dX11_kept_37 : decode cX11_kept 37 = .ok (.iload_n 3, 1) := by decide +kernel
theorem dX11_kept_38 : decode cX11_kept 38 = .ok (.isub, 1) := by decide +kernel
theorem dX11_kept_39 : decode cX11_kept 39 = .ok (.iload_n 1, 1) := by decide +kernel
theorem dX11_kept_40 : decode cX11_kept 40 = .ok (.iadd, 1) := by decide +kernel
theorem dX11_kept_41 : decode cX11_kept 41 = .ok (.bipush 64, 2) := by decide +kernel
theorem dX11_kept_43 : decode cX11_kept 43 = .ok (.irem, 1) := by decide +kernel
theorem dX11_kept_44 : decode cX11_kept 44 = .ok (.istore 4, 2) := by decide +kernel
theorem dX11_kept_46 : decode cX11_kept 46 = .ok (.iload_n 2, 1) := by decide +kernel
theorem dX11_kept_47 : decode cX11_kept 47 = .ok (.tableswitch 64 0 2 #[25, 38, 51], 25) := by decide +kernel
theorem dX11_kept_72 : decode cX11_kept 72 = .ok (.aload_n 0, 1) := by decide +kernel
theorem dX11_kept_73 : decode cX11_kept 73 = .ok (.getfield 29, 3) := by decide +kernel
theorem dX11_kept_76 : decode cX11_kept 76 = .ok (.getfield 305, 3) := by decide +kernel
theorem dX11_kept_79 : decode cX11_kept 79 = .ok (.iload 4, 2) := by decide +kernel
theorem dX11_kept_81 : decode cX11_kept 81 = .ok (.invokevirtual 161, 3) := by decide +kernel
theorem dX11_kept_84 : decode cX11_kept 84 = .ok (.ireturn, 1) := by decide +kernel
theorem dX11_kept_85 : decode cX11_kept 85 = .ok (.aload_n 0, 1) := by decide +kernel
theorem dX11_kept_86 : decode cX11_kept 86 = .ok (.getfield 29, 3) := by decide +kernel
theorem dX11_kept_89 : decode cX11_kept 89 = .ok (.getfield 308, 3) := by decide +kernel
theorem dX11_kept_92 : decode cX11_kept 92 = .ok (.iload 4, 2) := by decide +kernel
theorem dX11_kept_94 : decode cX11_kept 94 = .ok (.invokevirtual 161, 3) := by decide +kernel
theorem dX11_kept_97 : decode cX11_kept 97 = .ok (.ireturn, 1) := by decide +kernel
theorem dX11_kept_98 : decode cX11_kept 98 = .ok (.aload_n 0, 1) := by decide +kernel
theorem dX11_kept_99 : decode cX11_kept 99 = .ok (.getfield 29, 3) := by decide +kernel
theorem dX11_kept_102 : decode cX11_kept 102 = .ok (.getfield 311, 3) := by decide +kernel
theorem dX11_kept_105 : decode cX11_kept 105 = .ok (.iload 4, 2) := by decide +kernel
theorem dX11_kept_107 : decode cX11_kept 107 = .ok (.invokevirtual 161, 3) := by decide +kernel
theorem dX11_kept_110 : decode cX11_kept 110 = .ok (.ireturn, 1) := by decide +kernel
theorem dX11_kept_111 : decode cX11_kept 111 = .ok (.iconst (-1), 1) := by decide +kernel
theorem dX11_kept_112 : decode cX11_kept 112 = .ok (.ireturn, 1) := by decide +kernel
abbrev MX11_kept : MI := (RX11, cX11_kept, 5, 2, false)
def swX11_kept_1 (x : Int32) : St := if x = iI 0 then (retI (calX decI (ckV 5 1) mX5_at (agC va_rf (getR 10 16 (getR 11 3 (lvR 0))) (agC Value.int (lvI 4) agN)))) else if x = iI 1 then (retI (calX decI (ckV 5 1) mX5_at (agC va_rf (getR 10 17 (getR 11 3 (lvR 0))) (agC Value.int (lvI 4) agN)))) else if x = iI 2 then (retI (calX decI (ckV 5 1) mX5_at (agC va_rf (getR 10 18 (getR 11 3 (lvR 0))) (agC Value.int (lvI 4) agN)))) else (retI (ciI (iI (-1))))
def bX11_kept : St := (seqS (lsI 3 (calX decI (ckS 2) mJ9_min_7cf53 (agC Value.int (getI 9 12 (getR 10 10 (getR 11 3 (lvR 0)))) (agC Value.int (ciI (iI 40)) agN)))) (seqS (ifS (orX (lt0 (lvI 1)) (geI (lvI 1) (lvI 3))) (retI (ciI (iI (-1))))) (seqS (lsI 4 (remI (addI (subI (getI 9 12 (getR 10 10 (getR 11 3 (lvR 0)))) (lvI 3)) (lvI 1)) (ciI (iI 64)))) (swS (lvI 2) swX11_kept_1))))
theorem swX11_kept_1_ok : ∀ x, ∃ tgt pcx, TSw MX11_kept.2.1 47 x tgt ∧ JS MX11_kept 113 0 tgt pcx [] (swX11_kept_1 x) ∧ Dead (swX11_kept_1 x) := by
  intro x
  unfold swX11_kept_1
  by_cases h0 : x = iI 0
  · subst h0
    rw [if_pos rfl]
    refine ⟨72, 85, ?_, (JS.retI (pc1 := 84) (JX.call (pc1 := 81) decI_ok (JA.r (JX.getR (pc1 := 76) (c := 10) (k := 16) (i := 305) (JX.getR (pc1 := 73) (c := 11) (k := 3) (i := 29) (JX.al (k := 0) rfl dX11_kept_72) cl11 (by decide) rfl fk11_29 dX11_kept_73) cl10 (by decide) rfl fk11_305 dX11_kept_76) (JA.i (JX.il2 dX11_kept_79) JA.nil)) aX5_at (RunK.V (i := 161) (c := 5) (n := 1) cl5 rfl (CN nX5_at (by decide) (by decide)) gw594 gw595 gw596 dX11_kept_81) (by decide)) dX11_kept_84), dead_retI⟩
    exact TSw.tab_in (off := 25) dX11_kept_47 (by decide) (by decide) rfl rfl
  by_cases h1 : x = iI 1
  · subst h1
    rw [if_neg (by decide)]
    rw [if_pos rfl]
    refine ⟨85, 98, ?_, (JS.retI (pc1 := 97) (JX.call (pc1 := 94) decI_ok (JA.r (JX.getR (pc1 := 89) (c := 10) (k := 17) (i := 308) (JX.getR (pc1 := 86) (c := 11) (k := 3) (i := 29) (JX.al (k := 0) rfl dX11_kept_85) cl11 (by decide) rfl fk11_29 dX11_kept_86) cl10 (by decide) rfl fk11_308 dX11_kept_89) (JA.i (JX.il2 dX11_kept_92) JA.nil)) aX5_at (RunK.V (i := 161) (c := 5) (n := 1) cl5 rfl (CN nX5_at (by decide) (by decide)) gw594 gw595 gw596 dX11_kept_94) (by decide)) dX11_kept_97), dead_retI⟩
    exact TSw.tab_in (off := 38) dX11_kept_47 (by decide) (by decide) rfl rfl
  by_cases h2 : x = iI 2
  · subst h2
    rw [if_neg (by decide)]
    rw [if_neg (by decide)]
    rw [if_pos rfl]
    refine ⟨98, 111, ?_, (JS.retI (pc1 := 110) (JX.call (pc1 := 107) decI_ok (JA.r (JX.getR (pc1 := 102) (c := 10) (k := 18) (i := 311) (JX.getR (pc1 := 99) (c := 11) (k := 3) (i := 29) (JX.al (k := 0) rfl dX11_kept_98) cl11 (by decide) rfl fk11_29 dX11_kept_99) cl10 (by decide) rfl fk11_311 dX11_kept_102) (JA.i (JX.il2 dX11_kept_105) JA.nil)) aX5_at (RunK.V (i := 161) (c := 5) (n := 1) cl5 rfl (CN nX5_at (by decide) (by decide)) gw594 gw595 gw596 dX11_kept_107) (by decide)) dX11_kept_110), dead_retI⟩
    exact TSw.tab_in (off := 51) dX11_kept_47 (by decide) (by decide) rfl rfl
  rw [if_neg h0]
  rw [if_neg h1]
  rw [if_neg h2]
  refine ⟨111, 113, ?_, (JS.retI (pc1 := 112) (JX.ic (n := (-1)) rfl dX11_kept_111) dX11_kept_112), dead_retI⟩
  exact TSw.tab_out [0, 1, 2] dX11_kept_47 (by decide) (by decide) (by simp [h0, h1, h2]) rfl
theorem jX11_kept : JS MX11_kept 0 0 0 113 [] bX11_kept :=
  (JS.seq (pc1 := 16) (JS.is (pc1 := 15) (k := 3) (JX.call (pc1 := 12) decI_ok (JA.i (JX.getI (pc1 := 7) (c := 9) (k := 12) (i := 139) (JX.getR (pc1 := 4) (c := 10) (k := 10) (i := 112) (JX.getR (pc1 := 1) (c := 11) (k := 3) (i := 29) (JX.al (k := 0) rfl dX11_kept_0) cl11 (by decide) rfl fk11_29 dX11_kept_1) cl10 (by decide) rfl fk11_112 dX11_kept_4) cl9 (by decide) rfl fk11_139 dX11_kept_7) (JA.i (JX.bp (n := 40) kb40 dX11_kept_10) JA.nil)) aJ9_min_7cf53 (RunK.S (i := 142) (n := 2) (CN nJ9_min_7cf53 (by decide) (by decide)) gw803 gw135 dX11_kept_12) (by decide)) rfl (show 3 < 5 by decide) dX11_kept_15) (JS.seq (pc1 := 27) (JS.iff (l := 27) (pc1 := 25) (CJ.or_f (l := 25) (pc1 := 20) (CJ.lt0_t (tgt := 25) (pc1 := 17) (JX.il (k := 1) rfl dX11_kept_16) dX11_kept_17 rfl) (CJ.ge_f (tgt := 27) (pc1 := 21) (pc2 := 22) (JX.il (k := 1) rfl dX11_kept_20) (JX.il (k := 3) rfl dX11_kept_21) dX11_kept_22 rfl) (Or.inl rfl)) (JS.retI (pc1 := 26) (JX.ic (n := (-1)) rfl dX11_kept_25) dX11_kept_26) (Or.inl rfl)) (JS.seq (pc1 := 46) (JS.is2 (pc1 := 44) (JX.irem (pc1 := 41) (pc2 := 43) (JX.iadd (pc1 := 39) (pc2 := 40) (JX.isub (pc1 := 37) (pc2 := 38) (JX.getI (pc1 := 34) (c := 9) (k := 12) (i := 139) (JX.getR (pc1 := 31) (c := 10) (k := 10) (i := 112) (JX.getR (pc1 := 28) (c := 11) (k := 3) (i := 29) (JX.al (k := 0) rfl dX11_kept_27) cl11 (by decide) rfl fk11_29 dX11_kept_28) cl10 (by decide) rfl fk11_112 dX11_kept_31) cl9 (by decide) rfl fk11_139 dX11_kept_34) (JX.il (k := 3) rfl dX11_kept_37) dX11_kept_38) (JX.il (k := 1) rfl dX11_kept_39) dX11_kept_40) (JX.bp (n := 64) kb64 dX11_kept_41) dX11_kept_43) (show 4 < 5 by decide) dX11_kept_44) (JS.sw (lend := 113) (pc1 := 47) (pc2 := 113) (JX.il (k := 2) rfl dX11_kept_46) swX11_kept_1_ok (Or.inl rfl)))))
def mX11_kept : MS := runM 5 (some (.int)) bX11_kept
theorem aX11_kept : MA yX11_kept cX11_kept 5 (some (.int)) 2 mX11_kept := MA.of (plainFor_of_name (by decide)) jX11_kept
theorem eX11_kept (a0 : Nat) (a1 : Int32) (a2 : Int32) (h : AH) : mX11_kept [.ref a0, .int a1, .int a2] h = (bX11_kept [.val (.ref a0), .val (.int a1), .val (.int a2), .unset, .unset] h).bind (finM (some (.int))) := rfl
/-! PieceStore.status -/
theorem dX11_status_0 : decode cX11_status 0 = .ok (.aload_n 0, 1) := by decide +kernel
theorem dX11_status_1 : decode cX11_status 1 = .ok (.getfield 16, 3) := by decide +kernel
theorem dX11_status_4 : decode cX11_status 4 = .ok (.iload_n 1, 1) := by decide +kernel
theorem dX11_status_5 : decode cX11_status 5 = .ok (.invokevirtual 161, 3) := by decide +kernel
theorem dX11_status_8 : decode cX11_status 8 = .ok (.ireturn, 1) := by decide +kernel
abbrev MX11_status : MI := (RX11, cX11_status, 2, 2, false)
def bX11_status : St := (retI (calX decI (ckV 5 1) mX5_at (agC va_rf (getR 11 1 (lvR 0)) (agC Value.int (lvI 1) agN))))
theorem jX11_status : JS MX11_status 0 0 0 9 [] bX11_status :=
  (JS.retI (pc1 := 8) (JX.call (pc1 := 5) decI_ok (JA.r (JX.getR (pc1 := 1) (c := 11) (k := 1) (i := 16) (JX.al (k := 0) rfl dX11_status_0) cl11 (by decide) rfl fk11_16 dX11_status_1) (JA.i (JX.il (k := 1) rfl dX11_status_4) JA.nil)) aX5_at (RunK.V (i := 161) (c := 5) (n := 1) cl5 rfl (CN nX5_at (by decide) (by decide)) gw594 gw595 gw596 dX11_status_5) (by decide)) dX11_status_8)
def mX11_status : MS := runM 2 (some (.int)) bX11_status
theorem aX11_status : MA yX11_status cX11_status 2 (some (.int)) 2 mX11_status := MA.of (plainFor_of_name (by decide)) jX11_status
theorem eX11_status (a0 : Nat) (a1 : Int32) (h : AH) : mX11_status [.ref a0, .int a1] h = (bX11_status [.val (.ref a0), .val (.int a1)] h).bind (finM (some (.int))) := rfl
/-! PieceStoreModel.resets -/
theorem dX12_resets_0 : decode cX12_resets 0 = .ok (.iconst 0, 1) := by decide +kernel
theorem dX12_resets_1 : decode cX12_resets 1 = .ok (.istore_n 1, 1) := by decide +kernel
theorem dX12_resets_2 : decode cX12_resets 2 = .ok (.iload_n 1, 1) := by decide +kernel
theorem dX12_resets_3 : decode cX12_resets 3 = .ok (.ldc 116, 2) := by decide +kernel
theorem dX12_resets_5 : decode cX12_resets 5 = .ok (.if_icmp .ge 16, 3) := by decide +kernel
theorem dX12_resets_8 : decode cX12_resets 8 = .ok (.aload_n 0, 1) := by decide +kernel
theorem dX12_resets_9 : decode cX12_resets 9 = .ok (.getfield 117, 3) := by decide +kernel
theorem dX12_resets_12 : decode cX12_resets 12 = .ok (.iload_n 1, 1) := by decide +kernel
theorem dX12_resets_13 : decode cX12_resets 13 = .ok (.iconst 0, 1) := by decide +kernel
theorem dX12_resets_14 : decode cX12_resets 14 = .ok (.iastore, 1) := by decide +kernel
theorem dX12_resets_15 : decode cX12_resets 15 = .ok (.iinc 1 1, 3) := by decide +kernel
theorem dX12_resets_18 : decode cX12_resets 18 = .ok (.goto (-16), 3) := by decide +kernel
theorem dX12_resets_21 : decode cX12_resets 21 = .ok (.aload_n 0, 1) := by decide +kernel
theorem dX12_resets_22 : decode cX12_resets 22 = .ok (.iconst 0, 1) := by decide +kernel
theorem dX12_resets_23 : decode cX12_resets 23 = .ok (.putfield 127, 3) := by decide +kernel
theorem dX12_resets_26 : decode cX12_resets 26 = .ok (.aload_n 0, 1) := by decide +kernel
theorem dX12_resets_27 : decode cX12_resets 27 = .ok (.iconst 0, 1) := by decide +kernel
theorem dX12_resets_28 : decode cX12_resets 28 = .ok (.putfield 133, 3) := by decide +kernel
theorem dX12_resets_31 : decode cX12_resets 31 = .ok (.aload_n 0, 1) := by decide +kernel
theorem dX12_resets_32 : decode cX12_resets 32 = .ok (.iconst 0, 1) := by decide +kernel
theorem dX12_resets_33 : decode cX12_resets 33 = .ok (.putfield 212, 3) := by decide +kernel
theorem dX12_resets_36 : decode cX12_resets 36 = .ok (.return_, 1) := by decide +kernel
abbrev MX12_resets : MI := (RX12, cX12_resets, 2, 1, false)
def lcX12_resets_1 : Ex Bool := (ltI (lvI 1) (ciI (iI 42000)))
def lbX12_resets_1 : St := (forB (astI (getR 12 34 (lvR 0)) (lvI 1) (ciI (iI 0))) (incI 1 (iI 1)))
def bX12_resets : St := (seqS (scS 1 (seqS (lsI 1 (ciI (iI 0))) (whileS lcX12_resets_1 lbX12_resets_1))) (seqS (putI 12 37 (lvR 0) (ciI (iI 0))) (seqS (putI 12 39 (lvR 0) (ciI (iI 0))) (seqS (putI 12 65 (lvR 0) (ciI (iI 0))) retV))))
theorem jX12_resets : JS MX12_resets 0 0 0 37 [] bX12_resets :=
  (JS.seq (pc1 := 21) (JS.sc (JS.seq (pc1 := 2) (JS.is (pc1 := 1) (k := 1) (JX.ic (n := 0) rfl dX12_resets_0) rfl (show 1 < 2 by decide) dX12_resets_1) (JS.while (l := 21) (lb := 21) (pc1 := 8) (pc2 := 18) (pc3 := 21) (CJ.lt_f (tgt := 21) (pc1 := 3) (pc2 := 5) (JX.il (k := 1) rfl dX12_resets_2) (JX.ldcK (i := 116) (by decide) gw1310 dX12_resets_3) dX12_resets_5 rfl) (JS.forb (pc1 := 15) (JS.ia (pc1 := 12) (pc2 := 13) (pc3 := 14) (JX.getR (pc1 := 9) (c := 12) (k := 34) (i := 117) (JX.al (k := 0) rfl dX12_resets_8) cl12 (by decide) rfl fk12_117 dX12_resets_9) (JX.il (k := 1) rfl dX12_resets_12) (JX.ic (n := 0) rfl dX12_resets_13) dX12_resets_14) (JS.inc (n := 1) rfl (show 1 < 2 by decide) dX12_resets_15)) dX12_resets_18 rfl (Or.inl rfl) (Or.inl rfl)))) (JS.seq (pc1 := 26) (JS.pI (pc1 := 22) (pc2 := 23) (c := 12) (k := 37) (i := 127) (JX.al (k := 0) rfl dX12_resets_21) (JX.ic (n := 0) rfl dX12_resets_22) cl12 (by decide) rfl fk12_127 (Or.inl rfl) dX12_resets_23) (JS.seq (pc1 := 31) (JS.pI (pc1 := 27) (pc2 := 28) (c := 12) (k := 39) (i := 133) (JX.al (k := 0) rfl dX12_resets_26) (JX.ic (n := 0) rfl dX12_resets_27) cl12 (by decide) rfl fk12_133 (Or.inl rfl) dX12_resets_28) (JS.seq (pc1 := 36) (JS.pI (pc1 := 32) (pc2 := 33) (c := 12) (k := 65) (i := 212) (JX.al (k := 0) rfl dX12_resets_31) (JX.ic (n := 0) rfl dX12_resets_32) cl12 (by decide) rfl fk12_212 (Or.inl rfl) dX12_resets_33) (JS.retV dX12_resets_36)))))
def mX12_resets : MS := runM 2 none bX12_resets
theorem aX12_resets : MA yX12_resets cX12_resets 2 none 1 mX12_resets := MA.of (plainFor_of_name (by decide)) jX12_resets
theorem eX12_resets (a0 : Nat) (h : AH) : mX12_resets [.ref a0] h = (bX12_resets [.val (.ref a0), .unset] h).bind (finM none) := rfl
/-! PieceStoreModel.<init> -/
theorem dX12_init_0 : decode cX12_init 0 = .ok (.aload_n 0, 1) := by decide +kernel
theorem dX12_init_1 : decode cX12_init 1 = .ok (.invokespecial 3, 3) := by decide +kernel
theorem dX12_init_4 : decode cX12_init 4 = .ok (.aload_n 0, 1) := by decide +kernel
theorem dX12_init_5 : decode cX12_init 5 = .ok (.sipush 1800, 3) := by decide +kernel
theorem dX12_init_8 : decode cX12_init 8 = .ok (.newarray .int, 2) := by decide +kernel
theorem dX12_init_10 : decode cX12_init 10 = .ok (.putfield 9, 3) := by decide +kernel
theorem dX12_init_13 : decode cX12_init 13 = .ok (.aload_n 0, 1) := by decide +kernel
theorem dX12_init_14 : decode cX12_init 14 = .ok (.iconst 0, 1) := by decide +kernel
theorem dX12_init_15 : decode cX12_init 15 = .ok (.putfield 13, 3) := by decide +kernel
theorem dX12_init_18 : decode cX12_init 18 = .ok (.aload_n 0, 1) := by decide +kernel
theorem dX12_init_19 : decode cX12_init 19 = .ok (.iconst 0, 1) := by decide +kernel
theorem dX12_init_20 : decode cX12_init 20 = .ok (.putfield 17, 3) := by decide +kernel
theorem dX12_init_23 : decode cX12_init 23 = .ok (.aload_n 0, 1) := by decide +kernel
theorem dX12_init_24 : decode cX12_init 24 = .ok (.iconst 0, 1) := by decide +kernel
theorem dX12_init_25 : decode cX12_init 25 = .ok (.putfield 20, 3) := by decide +kernel
theorem dX12_init_28 : decode cX12_init 28 = .ok (.aload_n 0, 1) := by decide +kernel
theorem dX12_init_29 : decode cX12_init 29 = .ok (.iconst 0, 1) := by decide +kernel
theorem dX12_init_30 : decode cX12_init 30 = .ok (.putfield 23, 3) := by decide +kernel
theorem dX12_init_33 : decode cX12_init 33 = .ok (.aload_n 0, 1) := by decide +kernel
theorem dX12_init_34 : decode cX12_init 34 = .ok (.iconst 0, 1) := by decide +kernel
theorem dX12_init_35 : decode cX12_init 35 = .ok (.putfield 26, 3) := by decide +kernel
theorem dX12_init_38 : decode cX12_init 38 = .ok (.aload_n 0, 1) := by decide +kernel
theorem dX12_init_39 : decode cX12_init 39 = .ok (.iconst 0, 1) := by decide +kernel
theorem dX12_init_40 : decode cX12_init 40 = .ok (.putfield 29, 3) := by decide +kernel
theorem dX12_init_43 : decode cX12_init 43 = .ok (.aload_n 0, 1) := by decide +kernel
theorem dX12_init_44 : decode cX12_init 44 = .ok (.lconst 0, 1) := by decide +kernel
theorem dX12_init_45 : decode cX12_init 45 = .ok (.putfield 32, 3) := by decide +kernel
theorem dX12_init_48 : decode cX12_init 48 = .ok (.aload_n 0, 1) := by decide +kernel
theorem dX12_init_49 : decode cX12_init 49 = .ok (.iconst 0, 1) := by decide +kernel
theorem dX12_init_50 : decode cX12_init 50 = .ok (.putfield 36, 3) := by decide +kernel
theorem dX12_init_53 : decode cX12_init 53 = .ok (.aload_n 0, 1) := by decide +kernel
theorem dX12_init_54 : decode cX12_init 54 = .ok (.iconst (-1), 1) := by decide +kernel
theorem dX12_init_55 : decode cX12_init 55 = .ok (.putfield 39, 3) := by decide +kernel
theorem dX12_init_58 : decode cX12_init 58 = .ok (.aload_n 0, 1) := by decide +kernel
theorem dX12_init_59 : decode cX12_init 59 = .ok (.iconst 0, 1) := by decide +kernel
theorem dX12_init_60 : decode cX12_init 60 = .ok (.putfield 42, 3) := by decide +kernel
theorem dX12_init_63 : decode cX12_init 63 = .ok (.aload_n 0, 1) := by decide +kernel
theorem dX12_init_64 : decode cX12_init 64 = .ok (.iconst (-1), 1) := by decide +kernel
theorem dX12_init_65 : decode cX12_init 65 = .ok (.putfield 45, 3) := by decide +kernel
theorem dX12_init_68 : decode cX12_init 68 = .ok (.aload_n 0, 1) := by decide +kernel
theorem dX12_init_69 : decode cX12_init 69 = .ok (.iconst (-1), 1) := by decide +kernel
theorem dX12_init_70 : decode cX12_init 70 = .ok (.putfield 48, 3) := by decide +kernel
theorem dX12_init_73 : decode cX12_init 73 = .ok (.aload_n 0, 1) := by decide +kernel
theorem dX12_init_74 : decode cX12_init 74 = .ok (.iconst 0, 1) := by decide +kernel
theorem dX12_init_75 : decode cX12_init 75 = .ok (.putfield 51, 3) := by decide +kernel
theorem dX12_init_78 : decode cX12_init 78 = .ok (.aload_n 0, 1) := by decide +kernel
theorem dX12_init_79 : decode cX12_init 79 = .ok (.bipush 20, 2) := by decide +kernel
theorem dX12_init_81 : decode cX12_init 81 = .ok (.newarray .int, 2) := by decide +kernel
theorem dX12_init_83 : decode cX12_init 83 = .ok (.putfield 54, 3) := by decide +kernel
theorem dX12_init_86 : decode cX12_init 86 = .ok (.aload_n 0, 1) := by decide +kernel
theorem dX12_init_87 : decode cX12_init 87 = .ok (.bipush 6, 2) := by decide +kernel
theorem dX12_init_89 : decode cX12_init 89 = .ok (.newarray .int, 2) := by decide +kernel
theorem dX12_init_91 : decode cX12_init 91 = .ok (.putfield 57, 3) := by decide +kernel
theorem dX12_init_94 : decode cX12_init 94 = .ok (.aload_n 0, 1) := by decide +kernel
theorem dX12_init_95 : decode cX12_init 95 = .ok (.bipush 6, 2) := by decide +kernel
theorem dX12_init_97 : decode cX12_init 97 = .ok (.newarray .int, 2) := by decide +kernel
theorem dX12_init_99 : decode cX12_init 99 = .ok (.putfield 60, 3) := by decide +kernel
theorem dX12_init_102 : decode cX12_init 102 = .ok (.aload_n 0, 1) := by decide +kernel
theorem dX12_init_103 : decode cX12_init 103 = .ok (.sipush 3200, 3) := by decide +kernel
theorem dX12_init_106 : decode cX12_init 106 = .ok (.newarray .int, 2) := by decide +kernel
theorem dX12_init_108 : decode cX12_init 108 = .ok (.putfield 63, 3) := by decide +kernel
theorem dX12_init_111 : decode cX12_init 111 = .ok (.aload_n 0, 1) := by decide +kernel
theorem dX12_init_112 : decode cX12_init 112 = .ok (.sipush 3200, 3) := by decide +kernel
theorem dX12_init_115 : decode cX12_init 115 = .ok (.newarray .int, 2) := by decide +kernel
theorem dX12_init_117 : decode cX12_init 117 = .ok (.putfield 66, 3) := by decide +kernel
theorem dX12_init_120 : decode cX12_init 120 = .ok (.aload_n 0, 1) := by decide +kernel
theorem dX12_init_121 : decode cX12_init 121 = .ok (.iconst 0, 1) := by decide +kernel
theorem dX12_init_122 : decode cX12_init 122 = .ok (.putfield 69, 3) := by decide +kernel
theorem dX12_init_125 : decode cX12_init 125 = .ok (.aload_n 0, 1) := by decide +kernel
theorem dX12_init_126 : decode cX12_init 126 = .ok (.iconst 1, 1) := by decide +kernel
theorem dX12_init_127 : decode cX12_init 127 = .ok (.putfield 72, 3) := by decide +kernel
theorem dX12_init_130 : decode cX12_init 130 = .ok (.aload_n 0, 1) := by decide +kernel
theorem dX12_init_131 : decode cX12_init 131 = .ok (.iconst 0, 1) := by decide +kernel
theorem dX12_init_132 : decode cX12_init 132 = .ok (.putfield 75, 3) := by decide +kernel
theorem dX12_init_135 : decode cX12_init 135 = .ok (.aload_n 0, 1) := by decide +kernel
theorem dX12_init_136 : decode cX12_init 136 = .ok (.bipush 20, 2) := by decide +kernel
theorem dX12_init_138 : decode cX12_init 138 = .ok (.newarray .int, 2) := by decide +kernel
theorem dX12_init_140 : decode cX12_init 140 = .ok (.putfield 78, 3) := by decide +kernel
theorem dX12_init_143 : decode cX12_init 143 = .ok (.aload_n 0, 1) := by decide +kernel
theorem dX12_init_144 : decode cX12_init 144 = .ok (.bipush 20, 2) := by decide +kernel
theorem dX12_init_146 : decode cX12_init 146 = .ok (.newarray .int, 2) := by decide +kernel
theorem dX12_init_148 : decode cX12_init 148 = .ok (.putfield 81, 3) := by decide +kernel
theorem dX12_init_151 : decode cX12_init 151 = .ok (.aload_n 0, 1) := by decide +kernel
theorem dX12_init_152 : decode cX12_init 152 = .ok (.bipush 20, 2) := by decide +kernel
theorem dX12_init_154 : decode cX12_init 154 = .ok (.newarray .boolean, 2) := by decide +kernel
theorem dX12_init_156 : decode cX12_init 156 = .ok (.putfield 84, 3) := by decide +kernel
theorem dX12_init_159 : decode cX12_init 159 = .ok (.aload_n 0, 1) := by decide +kernel
theorem dX12_init_160 : decode cX12_init 160 = .ok (.bipush 20, 2) := by decide +kernel
theorem dX12_init_162 : decode cX12_init 162 = .ok (.newarray .int, 2) := by decide +kernel
theorem dX12_init_164 : decode cX12_init 164 = .ok (.putfield 88, 3) := by decide +kernel
theorem dX12_init_167 : decode cX12_init 167 = .ok (.aload_n 0, 1) := by decide +kernel
theorem dX12_init_168 : decode cX12_init 168 = .ok (.bipush 20, 2) := by decide +kernel
theorem dX12_init_170 : decode cX12_init 170 = .ok (.newarray .int, 2) := by decide +kernel
theorem dX12_init_172 : decode cX12_init 172 = .ok (.putfield 91, 3) := by decide +kernel
theorem dX12_init_175 : decode cX12_init 175 = .ok (.aload_n 0, 1) := by decide +kernel
theorem dX12_init_176 : decode cX12_init 176 = .ok (.iconst 0, 1) := by decide +kernel
theorem dX12_init_177 : decode cX12_init 177 = .ok (.putfield 94, 3) := by decide +kernel
theorem dX12_init_180 : decode cX12_init 180 = .ok (.aload_n 0, 1) := by decide +kernel
theorem dX12_init_181 : decode cX12_init 181 = .ok (.iconst 0, 1) := by decide +kernel
theorem dX12_init_182 : decode cX12_init 182 = .ok (.putfield 97, 3) := by decide +kernel
theorem dX12_init_185 : decode cX12_init 185 = .ok (.aload_n 0, 1) := by decide +kernel
theorem dX12_init_186 : decode cX12_init 186 = .ok (.sipush 500, 3) := by decide +kernel
theorem dX12_init_189 : decode cX12_init 189 = .ok (.newarray .int, 2) := by decide +kernel
theorem dX12_init_191 : decode cX12_init 191 = .ok (.putfield 100, 3) := by decide +kernel
theorem dX12_init_194 : decode cX12_init 194 = .ok (.aload_n 0, 1) := by decide +kernel
theorem dX12_init_195 : decode cX12_init 195 = .ok (.iconst 0, 1) := by decide +kernel
theorem dX12_init_196 : decode cX12_init 196 = .ok (.putfield 103, 3) := by decide +kernel
theorem dX12_init_199 : decode cX12_init 199 = .ok (.aload_n 0, 1) := by decide +kernel
theorem dX12_init_200 : decode cX12_init 200 = .ok (.iconst 0, 1) := by decide +kernel
theorem dX12_init_201 : decode cX12_init 201 = .ok (.putfield 106, 3) := by decide +kernel
theorem dX12_init_204 : decode cX12_init 204 = .ok (.aload_n 0, 1) := by decide +kernel
theorem dX12_init_205 : decode cX12_init 205 = .ok (.iconst 0, 1) := by decide +kernel
theorem dX12_init_206 : decode cX12_init 206 = .ok (.putfield 110, 3) := by decide +kernel
theorem dX12_init_209 : decode cX12_init 209 = .ok (.aload_n 0, 1) := by decide +kernel
theorem dX12_init_210 : decode cX12_init 210 = .ok (.bipush 6, 2) := by decide +kernel
theorem dX12_init_212 : decode cX12_init 212 = .ok (.newarray .int, 2) := by decide +kernel
theorem dX12_init_214 : decode cX12_init 214 = .ok (.putfield 113, 3) := by decide +kernel
theorem dX12_init_217 : decode cX12_init 217 = .ok (.aload_n 0, 1) := by decide +kernel
theorem dX12_init_218 : decode cX12_init 218 = .ok (.ldc 116, 2) := by decide +kernel
theorem dX12_init_220 : decode cX12_init 220 = .ok (.newarray .int, 2) := by decide +kernel
theorem dX12_init_222 : decode cX12_init 222 = .ok (.putfield 117, 3) := by decide +kernel
theorem dX12_init_225 : decode cX12_init 225 = .ok (.aload_n 0, 1) := by decide +kernel
theorem dX12_init_226 : decode cX12_init 226 = .ok (.ldc 120, 2) := by decide +kernel
theorem dX12_init_228 : decode cX12_init 228 = .ok (.newarray .int, 2) := by decide +kernel
theorem dX12_init_230 : decode cX12_init 230 = .ok (.putfield 121, 3) := by decide +kernel
theorem dX12_init_233 : decode cX12_init 233 = .ok (.aload_n 0, 1) := by decide +kernel
theorem dX12_init_234 : decode cX12_init 234 = .ok (.ldc 120, 2) := by decide +kernel
theorem dX12_init_236 : decode cX12_init 236 = .ok (.newarray .int, 2) := by decide +kernel
theorem dX12_init_238 : decode cX12_init 238 = .ok (.putfield 124, 3) := by decide +kernel
theorem dX12_init_241 : decode cX12_init 241 = .ok (.aload_n 0, 1) := by decide +kernel
theorem dX12_init_242 : decode cX12_init 242 = .ok (.iconst 0, 1) := by decide +kernel
theorem dX12_init_243 : decode cX12_init 243 = .ok (.putfield 127, 3) := by decide +kernel
theorem dX12_init_246 : decode cX12_init 246 = .ok (.aload_n 0, 1) := by decide +kernel
theorem dX12_init_247 : decode cX12_init 247 = .ok (.bipush 21, 2) := by decide +kernel
theorem dX12_init_249 : decode cX12_init 249 = .ok (.newarray .int, 2) := by decide +kernel
theorem dX12_init_251 : decode cX12_init 251 = .ok (.putfield 130, 3) := by decide +kernel
theorem dX12_init_254 : decode cX12_init 254 = .ok (.aload_n 0, 1) := by decide +kernel
theorem dX12_init_255 : decode cX12_init 255 = .ok (.iconst 0, 1) := by decide +kernel
theorem dX12_init_256 : decode cX12_init 256 = .ok (.putfield 133, 3) := by decide +kernel
theorem dX12_init_259 : decode cX12_init 259 = .ok (.aload_n 0, 1) := by decide +kernel
theorem dX12_init_260 : decode cX12_init 260 = .ok (.lconst 1, 1) := by decide +kernel
theorem dX12_init_261 : decode cX12_init 261 = .ok (.putfield 136, 3) := by decide +kernel
theorem dX12_init_264 : decode cX12_init 264 = .ok (.aload_n 0, 1) := by decide +kernel
theorem dX12_init_265 : decode cX12_init 265 = .ok (.sipush 10300, 3) := by decide +kernel
theorem dX12_init_268 : decode cX12_init 268 = .ok (.newarray .int, 2) := by decide +kernel
theorem dX12_init_270 : decode cX12_init 270 = .ok (.putfield 139, 3) := by decide +kernel
theorem dX12_init_273 : decode cX12_init 273 = .ok (.aload_n 0, 1) := by decide +kernel
theorem dX12_init_274 : decode cX12_init 274 = .ok (.sipush 10300, 3) := by decide +kernel
theorem dX12_init_277 : decode cX12_init 277 = .ok (.newarray .int, 2) := by decide +kernel
theorem dX12_init_279 : decode cX12_init 279 = .ok (.putfield 142, 3) := by decide +kernel
theorem dX12_init_282 : decode cX12_init 282 = .ok (.aload_n 0, 1) := by decide +kernel
theorem dX12_init_283 : decode cX12_init 283 = .ok (.sipush 10300, 3) := by decide +kernel
theorem dX12_init_286 : decode cX12_init 286 = .ok (.newarray .int, 2) := by decide +kernel
theorem dX12_init_288 : decode cX12_init 288 = .ok (.putfield 145, 3) := by decide +kernel
theorem dX12_init_291 : decode cX12_init 291 = .ok (.aload_n 0, 1) := by decide +kernel
theorem dX12_init_292 : decode cX12_init 292 = .ok (.sipush 10700, 3) := by decide +kernel
theorem dX12_init_295 : decode cX12_init 295 = .ok (.newarray .int, 2) := by decide +kernel
theorem dX12_init_297 : decode cX12_init 297 = .ok (.putfield 148, 3) := by decide +kernel
theorem dX12_init_300 : decode cX12_init 300 = .ok (.aload_n 0, 1) := by decide +kernel
theorem dX12_init_301 : decode cX12_init 301 = .ok (.sipush 10300, 3) := by decide +kernel
theorem dX12_init_304 : decode cX12_init 304 = .ok (.newarray .int, 2) := by decide +kernel
theorem dX12_init_306 : decode cX12_init 306 = .ok (.putfield 151, 3) := by decide +kernel
theorem dX12_init_309 : decode cX12_init 309 = .ok (.aload_n 0, 1) := by decide +kernel
theorem dX12_init_310 : decode cX12_init 310 = .ok (.sipush 10300, 3) := by decide +kernel
theorem dX12_init_313 : decode cX12_init 313 = .ok (.newarray .int, 2) := by decide +kernel
theorem dX12_init_315 : decode cX12_init 315 = .ok (.putfield 154, 3) := by decide +kernel
theorem dX12_init_318 : decode cX12_init 318 = .ok (.aload_n 0, 1) := by decide +kernel
theorem dX12_init_319 : decode cX12_init 319 = .ok (.sipush 10300, 3) := by decide +kernel
theorem dX12_init_322 : decode cX12_init 322 = .ok (.newarray .int, 2) := by decide +kernel
theorem dX12_init_324 : decode cX12_init 324 = .ok (.putfield 157, 3) := by decide +kernel
theorem dX12_init_327 : decode cX12_init 327 = .ok (.aload_n 0, 1) := by decide +kernel
theorem dX12_init_328 : decode cX12_init 328 = .ok (.sipush 500, 3) := by decide +kernel
theorem dX12_init_331 : decode cX12_init 331 = .ok (.newarray .long, 2) := by decide +kernel
theorem dX12_init_333 : decode cX12_init 333 = .ok (.putfield 160, 3) := by decide +kernel
theorem dX12_init_336 : decode cX12_init 336 = .ok (.aload_n 0, 1) := by decide +kernel
theorem dX12_init_337 : decode cX12_init 337 = .ok (.bipush 12, 2) := by decide +kernel
theorem dX12_init_339 : decode cX12_init 339 = .ok (.newarray .int, 2) := by decide +kernel
theorem dX12_init_341 : decode cX12_init 341 = .ok (.putfield 164, 3) := by decide +kernel
theorem dX12_init_344 : decode cX12_init 344 = .ok (.aload_n 0, 1) := by decide +kernel
theorem dX12_init_345 : decode cX12_init 345 = .ok (.sipush 400, 3) := by decide +kernel
theorem dX12_init_348 : decode cX12_init 348 = .ok (.newarray .int, 2) := by decide +kernel
theorem dX12_init_350 : decode cX12_init 350 = .ok (.putfield 167, 3) := by decide +kernel
theorem dX12_init_353 : decode cX12_init 353 = .ok (.aload_n 0, 1) := by decide +kernel
theorem dX12_init_354 : decode cX12_init 354 = .ok (.iconst 0, 1) := by decide +kernel
theorem dX12_init_355 : decode cX12_init 355 = .ok (.putfield 170, 3) := by decide +kernel
theorem dX12_init_358 : decode cX12_init 358 = .ok (.aload_n 0, 1) := by decide +kernel
theorem dX12_init_359 : decode cX12_init 359 = .ok (.sipush 401, 3) := by decide +kernel
theorem dX12_init_362 : decode cX12_init 362 = .ok (.newarray .int, 2) := by decide +kernel
theorem dX12_init_364 : decode cX12_init 364 = .ok (.putfield 173, 3) := by decide +kernel
theorem dX12_init_367 : decode cX12_init 367 = .ok (.aload_n 0, 1) := by decide +kernel
theorem dX12_init_368 : decode cX12_init 368 = .ok (.iconst 0, 1) := by decide +kernel
theorem dX12_init_369 : decode cX12_init 369 = .ok (.putfield 176, 3) := by decide +kernel
theorem dX12_init_372 : decode cX12_init 372 = .ok (.aload_n 0, 1) := by decide +kernel
theorem dX12_init_373 : decode cX12_init 373 = .ok (.sipush 10300, 3) := by decide +kernel
theorem dX12_init_376 : decode cX12_init 376 = .ok (.newarray .int, 2) := by decide +kernel
theorem dX12_init_378 : decode cX12_init 378 = .ok (.putfield 179, 3) := by decide +kernel
theorem dX12_init_381 : decode cX12_init 381 = .ok (.aload_n 0, 1) := by decide +kernel
theorem dX12_init_382 : decode cX12_init 382 = .ok (.bipush 8, 2) := by decide +kernel
theorem dX12_init_384 : decode cX12_init 384 = .ok (.newarray .int, 2) := by decide +kernel
theorem dX12_init_386 : decode cX12_init 386 = .ok (.putfield 182, 3) := by decide +kernel
theorem dX12_init_389 : decode cX12_init 389 = .ok (.aload_n 0, 1) := by decide +kernel
theorem dX12_init_390 : decode cX12_init 390 = .ok (.bipush 8, 2) := by decide +kernel
theorem dX12_init_392 : decode cX12_init 392 = .ok (.newarray .int, 2) := by decide +kernel
theorem dX12_init_394 : decode cX12_init 394 = .ok (.putfield 185, 3) := by decide +kernel
theorem dX12_init_397 : decode cX12_init 397 = .ok (.aload_n 0, 1) := by decide +kernel
theorem dX12_init_398 : decode cX12_init 398 = .ok (.bipush 8, 2) := by decide +kernel
theorem dX12_init_400 : decode cX12_init 400 = .ok (.newarray .int, 2) := by decide +kernel
theorem dX12_init_402 : decode cX12_init 402 = .ok (.putfield 188, 3) := by decide +kernel
theorem dX12_init_405 : decode cX12_init 405 = .ok (.aload_n 0, 1) := by decide +kernel
theorem dX12_init_406 : decode cX12_init 406 = .ok (.iconst 4, 1) := by decide +kernel
theorem dX12_init_407 : decode cX12_init 407 = .ok (.newarray .int, 2) := by decide +kernel
theorem dX12_init_409 : decode cX12_init 409 = .ok (.putfield 191, 3) := by decide +kernel
theorem dX12_init_412 : decode cX12_init 412 = .ok (.aload_n 0, 1) := by decide +kernel
theorem dX12_init_413 : decode cX12_init 413 = .ok (.iconst 0, 1) := by decide +kernel
theorem dX12_init_414 : decode cX12_init 414 = .ok (.putfield 194, 3) := by decide +kernel
theorem dX12_init_417 : decode cX12_init 417 = .ok (.aload_n 0, 1) := by decide +kernel
theorem dX12_init_418 : decode cX12_init 418 = .ok (.bipush 6, 2) := by decide +kernel
theorem dX12_init_420 : decode cX12_init 420 = .ok (.newarray .int, 2) := by decide +kernel
theorem dX12_init_422 : decode cX12_init 422 = .ok (.putfield 197, 3) := by decide +kernel
theorem dX12_init_425 : decode cX12_init 425 = .ok (.aload_n 0, 1) := by decide +kernel
theorem dX12_init_426 : decode cX12_init 426 = .ok (.bipush 6, 2) := by decide +kernel
theorem dX12_init_428 : decode cX12_init 428 = .ok (.newarray .int, 2) := by decide +kernel
theorem dX12_init_430 : decode cX12_init 430 = .ok (.putfield 200, 3) := by decide +kernel
theorem dX12_init_433 : decode cX12_init 433 = .ok (.aload_n 0, 1) := by decide +kernel
theorem dX12_init_434 : decode cX12_init 434 = .ok (.sipush 310, 3) := by decide +kernel
theorem dX12_init_437 : decode cX12_init 437 = .ok (.newarray .int, 2) := by decide +kernel
theorem dX12_init_439 : decode cX12_init 439 = .ok (.putfield 203, 3) := by decide +kernel
theorem dX12_init_442 : decode cX12_init 442 = .ok (.aload_n 0, 1) := by decide +kernel
theorem dX12_init_443 : decode cX12_init 443 = .ok (.sipush 310, 3) := by decide +kernel
theorem dX12_init_446 : decode cX12_init 446 = .ok (.newarray .int, 2) := by decide +kernel
theorem dX12_init_448 : decode cX12_init 448 = .ok (.putfield 206, 3) := by decide +kernel
theorem dX12_init_451 : decode cX12_init 451 = .ok (.aload_n 0, 1) := by decide +kernel
theorem dX12_init_452 : decode cX12_init 452 = .ok (.sipush 310, 3) := by decide +kernel
theorem dX12_init_455 : decode cX12_init 455 = .ok (.newarray .int, 2) := by decide +kernel
theorem dX12_init_457 : decode cX12_init 457 = .ok (.putfield 209, 3) := by decide +kernel
theorem dX12_init_460 : decode cX12_init 460 = .ok (.aload_n 0, 1) := by decide +kernel
theorem dX12_init_461 : decode cX12_init 461 = .ok (.iconst 0, 1) := by decide +kernel
theorem dX12_init_462 : decode cX12_init 462 = .ok (.putfield 212, 3) := by decide +kernel
theorem dX12_init_465 : decode cX12_init 465 = .ok (.aload_n 0, 1) := by decide +kernel
theorem dX12_init_466 : decode cX12_init 466 = .ok (.bipush 16, 2) := by decide +kernel
theorem dX12_init_468 : decode cX12_init 468 = .ok (.newarray .int, 2) := by decide +kernel
theorem dX12_init_470 : decode cX12_init 470 = .ok (.putfield 215, 3) := by decide +kernel
theorem dX12_init_473 : decode cX12_init 473 = .ok (.aload_n 0, 1) := by decide +kernel
theorem dX12_init_474 : decode cX12_init 474 = .ok (.bipush 16, 2) := by decide +kernel
theorem dX12_init_476 : decode cX12_init 476 = .ok (.newarray .int, 2) := by decide +kernel
theorem dX12_init_478 : decode cX12_init 478 = .ok (.putfield 218, 3) := by decide +kernel
theorem dX12_init_481 : decode cX12_init 481 = .ok (.aload_n 0, 1) := by decide +kernel
theorem dX12_init_482 : decode cX12_init 482 = .ok (.sipush 680, 3) := by decide +kernel
theorem dX12_init_485 : decode cX12_init 485 = .ok (.newarray .int, 2) := by decide +kernel
theorem dX12_init_487 : decode cX12_init 487 = .ok (.putfield 221, 3) := by decide +kernel
theorem dX12_init_490 : decode cX12_init 490 = .ok (.iconst 0, 1) := by decide +kernel
theorem dX12_init_491 : decode cX12_init 491 = .ok (.istore_n 1, 1) := by decide +kernel
theorem dX12_init_492 : decode cX12_init 492 = .ok (.iload_n 1, 1) := by decide +kernel
theorem dX12_init_493 : decode cX12_init 493 = .ok (.bipush 6, 2) := by decide +kernel
theorem dX12_init_495 : decode cX12_init 495 = .ok (.if_icmp .ge 16, 3) := by decide +kernel
theorem dX12_init_498 : decode cX12_init 498 = .ok (.aload_n 0, 1) := by decide +kernel
theorem dX12_init_499 : decode cX12_init 499 = .ok (.getfield 57, 3) := by decide +kernel
theorem dX12_init_502 : decode cX12_init 502 = .ok (.iload_n 1, 1) := by decide +kernel
theorem dX12_init_503 : decode cX12_init 503 = .ok (.iconst (-1), 1) := by decide +kernel
theorem dX12_init_504 : decode cX12_init 504 = .ok (.iastore, 1) := by decide +kernel
theorem dX12_init_505 : decode cX12_init 505 = .ok (.iinc 1 1, 3) := by decide +kernel
theorem dX12_init_508 : decode cX12_init 508 = .ok (.goto (-16), 3) := by decide +kernel
theorem dX12_init_511 : decode cX12_init 511 = .ok (.aload_n 0, 1) := by decide +kernel
theorem dX12_init_512 : decode cX12_init 512 = .ok (.invokevirtual 224, 3) := by decide +kernel
theorem dX12_init_515 : decode cX12_init 515 = .ok (.return_, 1) := by decide +kernel
abbrev MX12_init : MI := (RX12, cX12_init, 2, 2, true)
def lcX12_init_1 : Ex Bool := (ltI (lvI 1) (ciI (iI 6)))
def lbX12_init_1 : St := (forB (astI (getR 12 15 (lvR 0)) (lvI 1) (ciI (iI (-1)))) (incI 1 (iI 1)))
def bX12_init : St := (seqS (oiS (lvR 0)) (seqS (putR 12 0 (lvR 0) (newA 2 (ciI (iI 1800)))) (seqS (putI 12 1 (lvR 0) (ciI (iI 0))) (seqS (putI 12 2 (lvR 0) (ciI (iI 0))) (seqS (putI 12 3 (lvR 0) (ciI (iI 0))) (seqS (putI 12 4 (lvR 0) (ciI (iI 0))) (seqS (putI 12 5 (lvR 0) (ciI (iI 0))) (seqS (putI 12 6 (lvR 0) (ciI (iI 0))) (seqS (putL 12 7 (lvR 0) (clL (lI 0))) (seqS (putI 12 8 (lvR 0) (ciI (iI 0))) (seqS (putI 12 9 (lvR 0) (ciI (iI (-1)))) (seqS (putI 12 10 (lvR 0) (ciI (iI 0))) (seqS (putI 12 11 (lvR 0) (ciI (iI (-1)))) (seqS (putI 12 12 (lvR 0) (ciI (iI (-1)))) (seqS (putI 12 13 (lvR 0) (ciI (iI 0))) (seqS (putR 12 14 (lvR 0) (newA 2 (ciI (iI 20)))) (seqS (putR 12 15 (lvR 0) (newA 2 (ciI (iI 6)))) (seqS (putR 12 16 (lvR 0) (newA 2 (ciI (iI 6)))) (seqS (putR 12 17 (lvR 0) (newA 2 (ciI (iI 3200)))) (seqS (putR 12 18 (lvR 0) (newA 2 (ciI (iI 3200)))) (seqS (putI 12 19 (lvR 0) (ciI (iI 0))) (seqS (putI 12 20 (lvR 0) (ciI (iI 1))) (seqS (putI 12 21 (lvR 0) (ciI (iI 0))) (seqS (putR 12 22 (lvR 0) (newA 2 (ciI (iI 20)))) (seqS (putR 12 23 (lvR 0) (newA 2 (ciI (iI 20)))) (seqS (putR 12 24 (lvR 0) (newA 4 (ciI (iI 20)))) (seqS (putR 12 25 (lvR 0) (newA 2 (ciI (iI 20)))) (seqS (putR 12 26 (lvR 0) (newA 2 (ciI (iI 20)))) (seqS (putI 12 27 (lvR 0) (ciI (iI 0))) (seqS (putI 12 28 (lvR 0) (ciI (iI 0))) (seqS (putR 12 29 (lvR 0) (newA 2 (ciI (iI 500)))) (seqS (putI 12 30 (lvR 0) (ciI (iI 0))) (seqS (putZ 12 31 (lvR 0) (ciI (iI 0))) (seqS (putZ 12 32 (lvR 0) (ciI (iI 0))) (seqS (putR 12 33 (lvR 0) (newA 2 (ciI (iI 6)))) (seqS (putR 12 34 (lvR 0) (newA 2 (ciI (iI 42000)))) (seqS (putR 12 35 (lvR 0) (newA 2 (ciI (iI 60000)))) (seqS (putR 12 36 (lvR 0) (newA 2 (ciI (iI 60000)))) (seqS (putI 12 37 (lvR 0) (ciI (iI 0))) (seqS (putR 12 38 (lvR 0) (newA 2 (ciI (iI 21)))) (seqS (putI 12 39 (lvR 0) (ciI (iI 0))) (seqS (putL 12 40 (lvR 0) (clL (lI 1))) (seqS (putR 12 41 (lvR 0) (newA 2 (ciI (iI 10300)))) (seqS (putR 12 42 (lvR 0) (newA 2 (ciI (iI 10300)))) (seqS (putR 12 43 (lvR 0) (newA 2 (ciI (iI 10300)))) (seqS (putR 12 44 (lvR 0) (newA 2 (ciI (iI 10700)))) (seqS (putR 12 45 (lvR 0) (newA 2 (ciI (iI 10300)))) (seqS (putR 12 46 (lvR 0) (newA 2 (ciI (iI 10300)))) (seqS (putR 12 47 (lvR 0) (newA 2 (ciI (iI 10300)))) (seqS (putR 12 48 (lvR 0) (newA 3 (ciI (iI 500)))) (seqS (putR 12 49 (lvR 0) (newA 2 (ciI (iI 12)))) (seqS (putR 12 50 (lvR 0) (newA 2 (ciI (iI 400)))) (seqS (putI 12 51 (lvR 0) (ciI (iI 0))) (seqS (putR 12 52 (lvR 0) (newA 2 (ciI (iI 401)))) (seqS (putI 12 53 (lvR 0) (ciI (iI 0))) (seqS (putR 12 54 (lvR 0) (newA 2 (ciI (iI 10300)))) (seqS (putR 12 55 (lvR 0) (newA 2 (ciI (iI 8)))) (seqS (putR 12 56 (lvR 0) (newA 2 (ciI (iI 8)))) (seqS (putR 12 57 (lvR 0) (newA 2 (ciI (iI 8)))) (seqS (putR 12 58 (lvR 0) (newA 2 (ciI (iI 4)))) (seqS (putI 12 59 (lvR 0) (ciI (iI 0))) (seqS (putR 12 60 (lvR 0) (newA 2 (ciI (iI 6)))) (seqS (putR 12 61 (lvR 0) (newA 2 (ciI (iI 6)))) (seqS (putR 12 62 (lvR 0) (newA 2 (ciI (iI 310)))) (seqS (putR 12 63 (lvR 0) (newA 2 (ciI (iI 310)))) (seqS (putR 12 64 (lvR 0) (newA 2 (ciI (iI 310)))) (seqS (putI 12 65 (lvR 0) (ciI (iI 0))) (seqS (putR 12 66 (lvR 0) (newA 2 (ciI (iI 16)))) (seqS (putR 12 67 (lvR 0) (newA 2 (ciI (iI 16)))) (seqS (putR 12 68 (lvR 0) (newA 2 (ciI (iI 680)))) (seqS (scS 1 (seqS (lsI 1 (ciI (iI 0))) (whileS lcX12_init_1 lbX12_init_1))) (seqS (calS (ckV 12 0) mX12_resets (agC va_rf (lvR 0) agN)) retV))))))))))))))))))))))))))))))))))))))))))))))))))))))))))))))))))))))))
theorem jX12_init : JS MX12_init 0 0 0 516 [] bX12_init :=
  (JS.seq (pc1 := 4) (JS.oi (pc1 := 1) (i := 3) (JX.al (k := 0) rfl dX12_init_0) gw1309 rowO.2.1 rowO.2.2 (by decide) dX12_init_1) (JS.seq (pc1 := 13) (JS.pR (pc1 := 5) (pc2 := 10) (c := 12) (k := 0) (i := 9) (JX.al (k := 0) rfl dX12_init_4) (JX.newi (pc1 := 8) (JX.sp (n := 1800) ks1800 dX12_init_5) gw42 dX12_init_8) cl12 (by decide) (Or.inr ⟨_, rfl⟩) fk12_9 (Or.inr ⟨rfl, rfl, rfl, gw1316⟩) dX12_init_10) (JS.seq (pc1 := 18) (JS.pI (pc1 := 14) (pc2 := 15) (c := 12) (k := 1) (i := 13) (JX.al (k := 0) rfl dX12_init_13) (JX.ic (n := 0) rfl dX12_init_14) cl12 (by decide) rfl fk12_13 (Or.inl rfl) dX12_init_15) (JS.seq (pc1 := 23) (JS.pI (pc1 := 19) (pc2 := 20) (c := 12) (k := 2) (i := 17) (JX.al (k := 0) rfl dX12_init_18) (JX.ic (n := 0) rfl dX12_init_19) cl12 (by decide) rfl fk12_17 (Or.inl rfl) dX12_init_20) (JS.seq (pc1 := 28) (JS.pI (pc1 := 24) (pc2 := 25) (c := 12) (k := 3) (i := 20) (JX.al (k := 0) rfl dX12_init_23) (JX.ic (n := 0) rfl dX12_init_24) cl12 (by decide) rfl fk12_20 (Or.inl rfl) dX12_init_25) (JS.seq (pc1 := 33) (JS.pI (pc1 := 29) (pc2 := 30) (c := 12) (k := 4) (i := 23) (JX.al (k := 0) rfl dX12_init_28) (JX.ic (n := 0) rfl dX12_init_29) cl12 (by decide) rfl fk12_23 (Or.inl rfl) dX12_init_30) (JS.seq (pc1 := 38) (JS.pI (pc1 := 34) (pc2 := 35) (c := 12) (k := 5) (i := 26) (JX.al (k := 0) rfl dX12_init_33) (JX.ic (n := 0) rfl dX12_init_34) cl12 (by decide) rfl fk12_26 (Or.inl rfl) dX12_init_35) (JS.seq (pc1 := 43) (JS.pI (pc1 := 39) (pc2 := 40) (c := 12) (k := 6) (i := 29) (JX.al (k := 0) rfl dX12_init_38) (JX.ic (n := 0) rfl dX12_init_39) cl12 (by decide) rfl fk12_29 (Or.inl rfl) dX12_init_40) (JS.seq (pc1 := 48) (JS.pL (pc1 := 44) (pc2 := 45) (c := 12) (k := 7) (i := 32) (JX.al (k := 0) rfl dX12_init_43) (JX.lc (n := 0) (v := lI 0) rfl dX12_init_44) cl12 (by decide) rfl fk12_32 (Or.inl rfl) dX12_init_45) (JS.seq (pc1 := 53) (JS.pI (pc1 := 49) (pc2 := 50) (c := 12) (k := 8) (i := 36) (JX.al (k := 0) rfl dX12_init_48) (JX.ic (n := 0) rfl dX12_init_49) cl12 (by decide) rfl fk12_36 (Or.inl rfl) dX12_init_50) (JS.seq (pc1 := 58) (JS.pI (pc1 := 54) (pc2 := 55) (c := 12) (k := 9) (i := 39) (JX.al (k := 0) rfl dX12_init_53) (JX.ic (n := (-1)) rfl dX12_init_54) cl12 (by decide) rfl fk12_39 (Or.inl rfl) dX12_init_55) (JS.seq (pc1 := 63) (JS.pI (pc1 := 59) (pc2 := 60) (c := 12) (k := 10) (i := 42) (JX.al (k := 0) rfl dX12_init_58) (JX.ic (n := 0) rfl dX12_init_59) cl12 (by decide) rfl fk12_42 (Or.inl rfl) dX12_init_60) (JS.seq (pc1 := 68) (JS.pI (pc1 := 64) (pc2 := 65) (c := 12) (k := 11) (i := 45) (JX.al (k := 0) rfl dX12_init_63) (JX.ic (n := (-1)) rfl dX12_init_64) cl12 (by decide) rfl fk12_45 (Or.inl rfl) dX12_init_65) (JS.seq (pc1 := 73) (JS.pI (pc1 := 69) (pc2 := 70) (c := 12) (k := 12) (i := 48) (JX.al (k := 0) rfl dX12_init_68) (JX.ic (n := (-1)) rfl dX12_init_69) cl12 (by decide) rfl fk12_48 (Or.inl rfl) dX12_init_70) (JS.seq (pc1 := 78) (JS.pI (pc1 := 74) (pc2 := 75) (c := 12) (k := 13) (i := 51) (JX.al (k := 0) rfl dX12_init_73) (JX.ic (n := 0) rfl dX12_init_74) cl12 (by decide) rfl fk12_51 (Or.inl rfl) dX12_init_75) (JS.seq (pc1 := 86) (JS.pR (pc1 := 79) (pc2 := 83) (c := 12) (k := 14) (i := 54) (JX.al (k := 0) rfl dX12_init_78) (JX.newi (pc1 := 81) (JX.bp (n := 20) kb20 dX12_init_79) gw42 dX12_init_81) cl12 (by decide) (Or.inr ⟨_, rfl⟩) fk12_54 (Or.inr ⟨rfl, rfl, rfl, gw1330⟩) dX12_init_83) (JS.seq (pc1 := 94) (JS.pR (pc1 := 87) (pc2 := 91) (c := 12) (k := 15) (i := 57) (JX.al (k := 0) rfl dX12_init_86) (JX.newi (pc1 := 89) (JX.bp (n := 6) kb6 dX12_init_87) gw42 dX12_init_89) cl12 (by decide) (Or.inr ⟨_, rfl⟩) fk12_57 (Or.inr ⟨rfl, rfl, rfl, gw1331⟩) dX12_init_91) (JS.seq (pc1 := 102) (JS.pR (pc1 := 95) (pc2 := 99) (c := 12) (k := 16) (i := 60) (JX.al (k := 0) rfl dX12_init_94) (JX.newi (pc1 := 97) (JX.bp (n := 6) kb6 dX12_init_95) gw42 dX12_init_97) cl12 (by decide) (Or.inr ⟨_, rfl⟩) fk12_60 (Or.inr ⟨rfl, rfl, rfl, gw1332⟩) dX12_init_99) (JS.seq (pc1 := 111) (JS.pR (pc1 := 103) (pc2 := 108) (c := 12) (k := 17) (i := 63) (JX.al (k := 0) rfl dX12_init_102) (JX.newi (pc1 := 106) (JX.sp (n := 3200) ks3200 dX12_init_103) gw42 dX12_init_106) cl12 (by decide) (Or.inr ⟨_, rfl⟩) fk12_63 (Or.inr ⟨rfl, rfl, rfl, gw1333⟩) dX12_init_108) (JS.seq (pc1 := 120) (JS.pR (pc1 := 112) (pc2 := 117) (c := 12) (k := 18) (i := 66) (JX.al (k := 0) rfl dX12_init_111) (JX.newi (pc1 := 115) (JX.sp (n := 3200) ks3200 dX12_init_112) gw42 dX12_init_115) cl12 (by decide) (Or.inr ⟨_, rfl⟩) fk12_66 (Or.inr ⟨rfl, rfl, rfl, gw1334⟩) dX12_init_117) (JS.seq (pc1 := 125) (JS.pI (pc1 := 121) (pc2 := 122) (c := 12) (k := 19) (i := 69) (JX.al (k := 0) rfl dX12_init_120) (JX.ic (n := 0) rfl dX12_init_121) cl12 (by decide) rfl fk12_69 (Or.inl rfl) dX12_init_122) (JS.seq (pc1 := 130) (JS.pI (pc1 := 126) (pc2 := 127) (c := 12) (k := 20) (i := 72) (JX.al (k := 0) rfl dX12_init_125) (JX.ic (n := 1) rfl dX12_init_126) cl12 (by decide) rfl fk12_72 (Or.inl rfl) dX12_init_127) (JS.seq (pc1 := 135) (JS.pI (pc1 := 131) (pc2 := 132) (c := 12) (k := 21) (i := 75) (JX.al (k := 0) rfl dX12_init_130) (JX.ic (n := 0) rfl dX12_init_131) cl12 (by decide) rfl fk12_75 (Or.inl rfl) dX12_init_132) (JS.seq (pc1 := 143) (JS.pR (pc1 := 136) (pc2 := 140) (c := 12) (k := 22) (i := 78) (JX.al (k := 0) rfl dX12_init_135) (JX.newi (pc1 := 138) (JX.bp (n := 20) kb20 dX12_init_136) gw42 dX12_init_138) cl12 (by decide) (Or.inr ⟨_, rfl⟩) fk12_78 (Or.inr ⟨rfl, rfl, rfl, gw1338⟩) dX12_init_140) (JS.seq (pc1 := 151) (JS.pR (pc1 := 144) (pc2 := 148) (c := 12) (k := 23) (i := 81) (JX.al (k := 0) rfl dX12_init_143) (JX.newi (pc1 := 146) (JX.bp (n := 20) kb20 dX12_init_144) gw42 dX12_init_146) cl12 (by decide) (Or.inr ⟨_, rfl⟩) fk12_81 (Or.inr ⟨rfl, rfl, rfl, gw1339⟩) dX12_init_148) (JS.seq (pc1 := 159) (JS.pR (pc1 := 152) (pc2 := 156) (c := 12) (k := 24) (i := 84) (JX.al (k := 0) rfl dX12_init_151) (JX.newz (pc1 := 154) (JX.bp (n := 20) kb20 dX12_init_152) gw1524 dX12_init_154) cl12 (by decide) (Or.inr ⟨_, rfl⟩) fk12_84 (Or.inr ⟨rfl, rfl, rfl, gw1340⟩) dX12_init_156) (JS.seq (pc1 := 167) (JS.pR (pc1 := 160) (pc2 := 164) (c := 12) (k := 25) (i := 88) (JX.al (k := 0) rfl dX12_init_159) (JX.newi (pc1 := 162) (JX.bp (n := 20) kb20 dX12_init_160) gw42 dX12_init_162) cl12 (by decide) (Or.inr ⟨_, rfl⟩) fk12_88 (Or.inr ⟨rfl, rfl, rfl, gw1341⟩) dX12_init_164) (JS.seq (pc1 := 175) (JS.pR (pc1 := 168) (pc2 := 172) (c := 12) (k := 26) (i := 91) (JX.al (k := 0) rfl dX12_init_167) (JX.newi (pc1 := 170) (JX.bp (n := 20) kb20 dX12_init_168) gw42 dX12_init_170) cl12 (by decide) (Or.inr ⟨_, rfl⟩) fk12_91 (Or.inr ⟨rfl, rfl, rfl, gw1342⟩) dX12_init_172) (JS.seq (pc1 := 180) (JS.pI (pc1 := 176) (pc2 := 177) (c := 12) (k := 27) (i := 94) (JX.al (k := 0) rfl dX12_init_175) (JX.ic (n := 0) rfl dX12_init_176) cl12 (by decide) rfl fk12_94 (Or.inl rfl) dX12_init_177) (JS.seq (pc1 := 185) (JS.pI (pc1 := 181) (pc2 := 182) (c := 12) (k := 28) (i := 97) (JX.al (k := 0) rfl dX12_init_180) (JX.ic (n := 0) rfl dX12_init_181) cl12 (by decide) rfl fk12_97 (Or.inl rfl) dX12_init_182) (JS.seq (pc1 := 194) (JS.pR (pc1 := 186) (pc2 := 191) (c := 12) (k := 29) (i := 100) (JX.al (k := 0) rfl dX12_init_185) (JX.newi (pc1 := 189) (JX.sp (n := 500) ks500 dX12_init_186) gw42 dX12_init_189) cl12 (by decide) (Or.inr ⟨_, rfl⟩) fk12_100 (Or.inr ⟨rfl, rfl, rfl, gw1345⟩) dX12_init_191) (JS.seq (pc1 := 199) (JS.pI (pc1 := 195) (pc2 := 196) (c := 12) (k := 30) (i := 103) (JX.al (k := 0) rfl dX12_init_194) (JX.ic (n := 0) rfl dX12_init_195) cl12 (by decide) rfl fk12_103 (Or.inl rfl) dX12_init_196) (JS.seq (pc1 := 204) (JS.pZ (pc1 := 200) (pc2 := 201) (c := 12) (k := 31) (i := 106) (JX.al (k := 0) rfl dX12_init_199) (JX.ic (n := 0) rfl dX12_init_200) cl12 (by decide) rfl fk12_106 (Or.inl rfl) dX12_init_201) (JS.seq (pc1 := 209) (JS.pZ (pc1 := 205) (pc2 := 206) (c := 12) (k := 32) (i := 110) (JX.al (k := 0) rfl dX12_init_204) (JX.ic (n := 0) rfl dX12_init_205) cl12 (by decide) rfl fk12_110 (Or.inl rfl) dX12_init_206) (JS.seq (pc1 := 217) (JS.pR (pc1 := 210) (pc2 := 214) (c := 12) (k := 33) (i := 113) (JX.al (k := 0) rfl dX12_init_209) (JX.newi (pc1 := 212) (JX.bp (n := 6) kb6 dX12_init_210) gw42 dX12_init_212) cl12 (by decide) (Or.inr ⟨_, rfl⟩) fk12_113 (Or.inr ⟨rfl, rfl, rfl, gw1349⟩) dX12_init_214) (JS.seq (pc1 := 225) (JS.pR (pc1 := 218) (pc2 := 222) (c := 12) (k := 34) (i := 117) (JX.al (k := 0) rfl dX12_init_217) (JX.newi (pc1 := 220) (JX.ldcK (i := 116) (by decide) gw1310 dX12_init_218) gw42 dX12_init_220) cl12 (by decide) (Or.inr ⟨_, rfl⟩) fk12_117 (Or.inr ⟨rfl, rfl, rfl, gw1350⟩) dX12_init_222) (JS.seq (pc1 := 233) (JS.pR (pc1 := 226) (pc2 := 230) (c := 12) (k := 35) (i := 121) (JX.al (k := 0) rfl dX12_init_225) (JX.newi (pc1 := 228) (JX.ldcK (i := 120) (by decide) gw1311 dX12_init_226) gw42 dX12_init_228) cl12 (by decide) (Or.inr ⟨_, rfl⟩) fk12_121 (Or.inr ⟨rfl, rfl, rfl, gw1351⟩) dX12_init_230) (JS.seq (pc1 := 241) (JS.pR (pc1 := 234) (pc2 := 238) (c := 12) (k := 36) (i := 124) (JX.al (k := 0) rfl dX12_init_233) (JX.newi (pc1 := 236) (JX.ldcK (i := 120) (by decide) gw1311 dX12_init_234) gw42 dX12_init_236) cl12 (by decide) (Or.inr ⟨_, rfl⟩) fk12_124 (Or.inr ⟨rfl, rfl, rfl, gw1352⟩) dX12_init_238) (JS.seq (pc1 := 246) (JS.pI (pc1 := 242) (pc2 := 243) (c := 12) (k := 37) (i := 127) (JX.al (k := 0) rfl dX12_init_241) (JX.ic (n := 0) rfl dX12_init_242) cl12 (by decide) rfl fk12_127 (Or.inl rfl) dX12_init_243) (JS.seq (pc1 := 254) (JS.pR (pc1 := 247) (pc2 := 251) (c := 12) (k := 38) (i := 130) (JX.al (k := 0) rfl dX12_init_246) (JX.newi (pc1 := 249) (JX.bp (n := 21) kb21 dX12_init_247) gw42 dX12_init_249) cl12 (by decide) (Or.inr ⟨_, rfl⟩) fk12_130 (Or.inr ⟨rfl, rfl, rfl, gw1354⟩) dX12_init_251) (JS.seq (pc1 := 259) (JS.pI (pc1 := 255) (pc2 := 256) (c := 12) (k := 39) (i := 133) (JX.al (k := 0) rfl dX12_init_254) (JX.ic (n := 0) rfl dX12_init_255) cl12 (by decide) rfl fk12_133 (Or.inl rfl) dX12_init_256) (JS.seq (pc1 := 264) (JS.pL (pc1 := 260) (pc2 := 261) (c := 12) (k := 40) (i := 136) (JX.al (k := 0) rfl dX12_init_259) (JX.lc (n := 1) (v := lI 1) rfl dX12_init_260) cl12 (by decide) rfl fk12_136 (Or.inl rfl) dX12_init_261) (JS.seq (pc1 := 273) (JS.pR (pc1 := 265) (pc2 := 270) (c := 12) (k := 41) (i := 139) (JX.al (k := 0) rfl dX12_init_264) (JX.newi (pc1 := 268) (JX.sp (n := 10300) ks10300 dX12_init_265) gw42 dX12_init_268) cl12 (by decide) (Or.inr ⟨_, rfl⟩) fk12_139 (Or.inr ⟨rfl, rfl, rfl, gw1357⟩) dX12_init_270) (JS.seq (pc1 := 282) (JS.pR (pc1 := 274) (pc2 := 279) (c := 12) (k := 42) (i := 142) (JX.al (k := 0) rfl dX12_init_273) (JX.newi (pc1 := 277) (JX.sp (n := 10300) ks10300 dX12_init_274) gw42 dX12_init_277) cl12 (by decide) (Or.inr ⟨_, rfl⟩) fk12_142 (Or.inr ⟨rfl, rfl, rfl, gw1358⟩) dX12_init_279) (JS.seq (pc1 := 291) (JS.pR (pc1 := 283) (pc2 := 288) (c := 12) (k := 43) (i := 145) (JX.al (k := 0) rfl dX12_init_282) (JX.newi (pc1 := 286) (JX.sp (n := 10300) ks10300 dX12_init_283) gw42 dX12_init_286) cl12 (by decide) (Or.inr ⟨_, rfl⟩) fk12_145 (Or.inr ⟨rfl, rfl, rfl, gw1359⟩) dX12_init_288) (JS.seq (pc1 := 300) (JS.pR (pc1 := 292) (pc2 := 297) (c := 12) (k := 44) (i := 148) (JX.al (k := 0) rfl dX12_init_291) (JX.newi (pc1 := 295) (JX.sp (n := 10700) ks10700 dX12_init_292) gw42 dX12_init_295) cl12 (by decide) (Or.inr ⟨_, rfl⟩) fk12_148 (Or.inr ⟨rfl, rfl, rfl, gw1360⟩) dX12_init_297) (JS.seq (pc1 := 309) (JS.pR (pc1 := 301) (pc2 := 306) (c := 12) (k := 45) (i := 151) (JX.al (k := 0) rfl dX12_init_300) (JX.newi (pc1 := 304) (JX.sp (n := 10300) ks10300 dX12_init_301) gw42 dX12_init_304) cl12 (by decide) (Or.inr ⟨_, rfl⟩) fk12_151 (Or.inr ⟨rfl, rfl, rfl, gw1361⟩) dX12_init_306) (JS.seq (pc1 := 318) (JS.pR (pc1 := 310) (pc2 := 315) (c := 12) (k := 46) (i := 154) (JX.al (k := 0) rfl dX12_init_309) (JX.newi (pc1 := 313) (JX.sp (n := 10300) ks10300 dX12_init_310) gw42 dX12_init_313) cl12 (by decide) (Or.inr ⟨_, rfl⟩) fk12_154 (Or.inr ⟨rfl, rfl, rfl, gw1362⟩) dX12_init_315) (JS.seq (pc1 := 327) (JS.pR (pc1 := 319) (pc2 := 324) (c := 12) (k := 47) (i := 157) (JX.al (k := 0) rfl dX12_init_318) (JX.newi (pc1 := 322) (JX.sp (n := 10300) ks10300 dX12_init_319) gw42 dX12_init_322) cl12 (by decide) (Or.inr ⟨_, rfl⟩) fk12_157 (Or.inr ⟨rfl, rfl, rfl, gw1363⟩) dX12_init_324) (JS.seq (pc1 := 336) (JS.pR (pc1 := 328) (pc2 := 333) (c := 12) (k := 48) (i := 160) (JX.al (k := 0) rfl dX12_init_327) (JX.newl (pc1 := 331) (JX.sp (n := 500) ks500 dX12_init_328) gw1525 dX12_init_331) cl12 (by decide) (Or.inr ⟨_, rfl⟩) fk12_160 (Or.inr ⟨rfl, rfl, rfl, gw1364⟩) dX12_init_333) (JS.seq (pc1 := 344) (JS.pR (pc1 := 337) (pc2 := 341) (c := 12) (k := 49) (i := 164) (JX.al (k := 0) rfl dX12_init_336) (JX.newi (pc1 := 339) (JX.bp (n := 12) kb12 dX12_init_337) gw42 dX12_init_339) cl12 (by decide) (Or.inr ⟨_, rfl⟩) fk12_164 (Or.inr ⟨rfl, rfl, rfl, gw1365⟩) dX12_init_341) (JS.seq (pc1 := 353) (JS.pR (pc1 := 345) (pc2 := 350) (c := 12) (k := 50) (i := 167) (JX.al (k := 0) rfl dX12_init_344) (JX.newi (pc1 := 348) (JX.sp (n := 400) ks400 dX12_init_345) gw42 dX12_init_348) cl12 (by decide) (Or.inr ⟨_, rfl⟩) fk12_167 (Or.inr ⟨rfl, rfl, rfl, gw1366⟩) dX12_init_350) (JS.seq (pc1 := 358) (JS.pI (pc1 := 354) (pc2 := 355) (c := 12) (k := 51) (i := 170) (JX.al (k := 0) rfl dX12_init_353) (JX.ic (n := 0) rfl dX12_init_354) cl12 (by decide) rfl fk12_170 (Or.inl rfl) dX12_init_355) (JS.seq (pc1 := 367) (JS.pR (pc1 := 359) (pc2 := 364) (c := 12) (k := 52) (i := 173) (JX.al (k := 0) rfl dX12_init_358) (JX.newi (pc1 := 362) (JX.sp (n := 401) ks401 dX12_init_359) gw42 dX12_init_362) cl12 (by decide) (Or.inr ⟨_, rfl⟩) fk12_173 (Or.inr ⟨rfl, rfl, rfl, gw1368⟩) dX12_init_364) (JS.seq (pc1 := 372) (JS.pI (pc1 := 368) (pc2 := 369) (c := 12) (k := 53) (i := 176) (JX.al (k := 0) rfl dX12_init_367) (JX.ic (n := 0) rfl dX12_init_368) cl12 (by decide) rfl fk12_176 (Or.inl rfl) dX12_init_369) (JS.seq (pc1 := 381) (JS.pR (pc1 := 373) (pc2 := 378) (c := 12) (k := 54) (i := 179) (JX.al (k := 0) rfl dX12_init_372) (JX.newi (pc1 := 376) (JX.sp (n := 10300) ks10300 dX12_init_373) gw42 dX12_init_376) cl12 (by decide) (Or.inr ⟨_, rfl⟩) fk12_179 (Or.inr ⟨rfl, rfl, rfl, gw1370⟩) dX12_init_378) (JS.seq (pc1 := 389) (JS.pR (pc1 := 382) (pc2 := 386) (c := 12) (k := 55) (i := 182) (JX.al (k := 0) rfl dX12_init_381) (JX.newi (pc1 := 384) (JX.bp (n := 8) kb8 dX12_init_382) gw42 dX12_init_384) cl12 (by decide) (Or.inr ⟨_, rfl⟩) fk12_182 (Or.inr ⟨rfl, rfl, rfl, gw1371⟩) dX12_init_386) (JS.seq (pc1 := 397) (JS.pR (pc1 := 390) (pc2 := 394) (c := 12) (k := 56) (i := 185) (JX.al (k := 0) rfl dX12_init_389) (JX.newi (pc1 := 392) (JX.bp (n := 8) kb8 dX12_init_390) gw42 dX12_init_392) cl12 (by decide) (Or.inr ⟨_, rfl⟩) fk12_185 (Or.inr ⟨rfl, rfl, rfl, gw1372⟩) dX12_init_394) (JS.seq (pc1 := 405) (JS.pR (pc1 := 398) (pc2 := 402) (c := 12) (k := 57) (i := 188) (JX.al (k := 0) rfl dX12_init_397) (JX.newi (pc1 := 400) (JX.bp (n := 8) kb8 dX12_init_398) gw42 dX12_init_400) cl12 (by decide) (Or.inr ⟨_, rfl⟩) fk12_188 (Or.inr ⟨rfl, rfl, rfl, gw1373⟩) dX12_init_402) (JS.seq (pc1 := 412) (JS.pR (pc1 := 406) (pc2 := 409) (c := 12) (k := 58) (i := 191) (JX.al (k := 0) rfl dX12_init_405) (JX.newi (pc1 := 407) (JX.ic (n := 4) rfl dX12_init_406) gw42 dX12_init_407) cl12 (by decide) (Or.inr ⟨_, rfl⟩) fk12_191 (Or.inr ⟨rfl, rfl, rfl, gw1374⟩) dX12_init_409) (JS.seq (pc1 := 417) (JS.pI (pc1 := 413) (pc2 := 414) (c := 12) (k := 59) (i := 194) (JX.al (k := 0) rfl dX12_init_412) (JX.ic (n := 0) rfl dX12_init_413) cl12 (by decide) rfl fk12_194 (Or.inl rfl) dX12_init_414) (JS.seq (pc1 := 425) (JS.pR (pc1 := 418) (pc2 := 422) (c := 12) (k := 60) (i := 197) (JX.al (k := 0) rfl dX12_init_417) (JX.newi (pc1 := 420) (JX.bp (n := 6) kb6 dX12_init_418) gw42 dX12_init_420) cl12 (by decide) (Or.inr ⟨_, rfl⟩) fk12_197 (Or.inr ⟨rfl, rfl, rfl, gw1376⟩) dX12_init_422) (JS.seq (pc1 := 433) (JS.pR (pc1 := 426) (pc2 := 430) (c := 12) (k := 61) (i := 200) (JX.al (k := 0) rfl dX12_init_425) (JX.newi (pc1 := 428) (JX.bp (n := 6) kb6 dX12_init_426) gw42 dX12_init_428) cl12 (by decide) (Or.inr ⟨_, rfl⟩) fk12_200 (Or.inr ⟨rfl, rfl, rfl, gw1377⟩) dX12_init_430) (JS.seq (pc1 := 442) (JS.pR (pc1 := 434) (pc2 := 439) (c := 12) (k := 62) (i := 203) (JX.al (k := 0) rfl dX12_init_433) (JX.newi (pc1 := 437) (JX.sp (n := 310) ks310 dX12_init_434) gw42 dX12_init_437) cl12 (by decide) (Or.inr ⟨_, rfl⟩) fk12_203 (Or.inr ⟨rfl, rfl, rfl, gw1378⟩) dX12_init_439) (JS.seq (pc1 := 451) (JS.pR (pc1 := 443) (pc2 := 448) (c := 12) (k := 63) (i := 206) (JX.al (k := 0) rfl dX12_init_442) (JX.newi (pc1 := 446) (JX.sp (n := 310) ks310 dX12_init_443) gw42 dX12_init_446) cl12 (by decide) (Or.inr ⟨_, rfl⟩) fk12_206 (Or.inr ⟨rfl, rfl, rfl, gw1379⟩) dX12_init_448) (JS.seq (pc1 := 460) (JS.pR (pc1 := 452) (pc2 := 457) (c := 12) (k := 64) (i := 209) (JX.al (k := 0) rfl dX12_init_451) (JX.newi (pc1 := 455) (JX.sp (n := 310) ks310 dX12_init_452) gw42 dX12_init_455) cl12 (by decide) (Or.inr ⟨_, rfl⟩) fk12_209 (Or.inr ⟨rfl, rfl, rfl, gw1380⟩) dX12_init_457) (JS.seq (pc1 := 465) (JS.pI (pc1 := 461) (pc2 := 462) (c := 12) (k := 65) (i := 212) (JX.al (k := 0) rfl dX12_init_460) (JX.ic (n := 0) rfl dX12_init_461) cl12 (by decide) rfl fk12_212 (Or.inl rfl) dX12_init_462) (JS.seq (pc1 := 473) (JS.pR (pc1 := 466) (pc2 := 470) (c := 12) (k := 66) (i := 215) (JX.al (k := 0) rfl dX12_init_465) (JX.newi (pc1 := 468) (JX.bp (n := 16) kb16 dX12_init_466) gw42 dX12_init_468) cl12 (by decide) (Or.inr ⟨_, rfl⟩) fk12_215 (Or.inr ⟨rfl, rfl, rfl, gw1382⟩) dX12_init_470) (JS.seq (pc1 := 481) (JS.pR (pc1 := 474) (pc2 := 478) (c := 12) (k := 67) (i := 218) (JX.al (k := 0) rfl dX12_init_473) (JX.newi (pc1 := 476) (JX.bp (n := 16) kb16 dX12_init_474) gw42 dX12_init_476) cl12 (by decide) (Or.inr ⟨_, rfl⟩) fk12_218 (Or.inr ⟨rfl, rfl, rfl, gw1383⟩) dX12_init_478) (JS.seq (pc1 := 490) (JS.pR (pc1 := 482) (pc2 := 487) (c := 12) (k := 68) (i := 221) (JX.al (k := 0) rfl dX12_init_481) (JX.newi (pc1 := 485) (JX.sp (n := 680) ks680 dX12_init_482) gw42 dX12_init_485) cl12 (by decide) (Or.inr ⟨_, rfl⟩) fk12_221 (Or.inr ⟨rfl, rfl, rfl, gw1384⟩) dX12_init_487) (JS.seq (pc1 := 511) (JS.sc (JS.seq (pc1 := 492) (JS.is (pc1 := 491) (k := 1) (JX.ic (n := 0) rfl dX12_init_490) rfl (show 1 < 2 by decide) dX12_init_491) (JS.while (l := 511) (lb := 511) (pc1 := 498) (pc2 := 508) (pc3 := 511) (CJ.lt_f (tgt := 511) (pc1 := 493) (pc2 := 495) (JX.il (k := 1) rfl dX12_init_492) (JX.bp (n := 6) kb6 dX12_init_493) dX12_init_495 rfl) (JS.forb (pc1 := 505) (JS.ia (pc1 := 502) (pc2 := 503) (pc3 := 504) (JX.getR (pc1 := 499) (c := 12) (k := 15) (i := 57) (JX.al (k := 0) rfl dX12_init_498) cl12 (by decide) rfl fk12_57 dX12_init_499) (JX.il (k := 1) rfl dX12_init_502) (JX.ic (n := (-1)) rfl dX12_init_503) dX12_init_504) (JS.inc (n := 1) rfl (show 1 < 2 by decide) dX12_init_505)) dX12_init_508 rfl (Or.inl rfl) (Or.inl rfl)))) (JS.seq (pc1 := 515) (JS.call (pc1 := 512) (JA.r (JX.al (k := 0) rfl dX12_init_511) JA.nil) aX12_resets (RunK.V (i := 224) (c := 12) (n := 0) cl12 rfl (CN nX12_resets (by decide) (by decide)) gw1312 gw1314 gs53 dX12_init_512)) (JS.retV dX12_init_515)))))))))))))))))))))))))))))))))))))))))))))))))))))))))))))))))))))))))
def mX12_init : MS := runM 2 none bX12_init
theorem aX12_init : MA yX12_init cX12_init 2 none 2 mX12_init := MA.of (plainFor_of_name (by decide)) jX12_init
theorem eX12_init (a0 : Nat) (h : AH) : mX12_init [.ref a0] h = (bX12_init [.val (.ref a0), .unset] h).bind (finM none) := rfl
/-! PieceStoreModel.is -/
theorem dX12_is_0 : decode cX12_is 0 = .ok (.iload_n 0, 1) := by decide +kernel
theorem dX12_is_1 : decode cX12_is 1 = .ok (.iload_n 1, 1) := by decide +kernel
theorem dX12_is_2 : decode cX12_is 2 = .ok (.if_icmp .lt 12, 3) := by decide +kernel
theorem dX12_is_5 : decode cX12_is 5 = .ok (.iload_n 0, 1) := by decide +kernel
theorem dX12_is_6 : decode cX12_is 6 = .ok (.iload_n 2, 1) := by decide +kernel
theorem dX12_is_7 : decode cX12_is 7 = .ok (.if_icmp .gt 7, 3) := by decide +kernel
theorem dX12_is_10 : decode cX12_is 10 = .ok (.iconst 1, 1) := by decide +kernel
theorem dX12_is_11 : decode cX12_is 11 = .ok (.goto 4, 3) := by decide +kernel
theorem dX12_is_14 : decode cX12_is 14 = .ok (.iconst 0, 1) := by decide +kernel
theorem dX12_is_15 : decode cX12_is 15 = .ok (.ireturn, 1) := by decide +kernel
abbrev MX12_is : MI := (RX12, cX12_is, 3, 1, false)
def bX12_is : St := (retI (iteX (andX (geI (lvI 0) (lvI 1)) (leI (lvI 0) (lvI 2))) (ciI (iI 1)) (ciI (iI 0))))
theorem jX12_is : JS MX12_is 0 0 0 16 [] bX12_is :=
  (JS.retI (pc1 := 15) (JX.ite (l := 14) (pc1 := 10) (pc2 := 11) (pc3 := 15) (lend := 15) (CJ.and_f (pc1 := 5) (CJ.ge_f (tgt := 14) (pc1 := 1) (pc2 := 2) (JX.il (k := 0) rfl dX12_is_0) (JX.il (k := 1) rfl dX12_is_1) dX12_is_2 rfl) (CJ.le_f (tgt := 14) (pc1 := 6) (pc2 := 7) (JX.il (k := 0) rfl dX12_is_5) (JX.il (k := 2) rfl dX12_is_6) dX12_is_7 rfl)) (JX.ic (n := 1) rfl dX12_is_10) dX12_is_11 rfl (JX.ic (n := 0) rfl dX12_is_14) (Or.inl rfl)) dX12_is_15)
def mX12_is : MS := runM 3 (some (.boolean)) bX12_is
theorem aX12_is : MA yX12_is cX12_is 3 (some (.boolean)) 1 mX12_is := MA.of (plainFor_of_name (by decide)) jX12_is
theorem eX12_is (a0 : Int32) (a1 : Int32) (a2 : Int32) (h : AH) : mX12_is [.int a0, .int a1, .int a2] h = (bX12_is [.val (.int a0), .val (.int a1), .val (.int a2)] h).bind (finM (some (.boolean))) := rfl
/-! PieceStoreModel.put -/
theorem dX12_put_0 : decode cX12_put 0 = .ok (.bipush 24, 2) := by decide +kernel
theorem dX12_put_2 : decode cX12_put 2 = .ok (.istore_n 2, 1) := by decide +kernel
theorem dX12_put_3 : decode cX12_put 3 = .ok (.iload_n 2, 1) := by decide +kernel
theorem dX12_put_4 : decode cX12_put 4 = .ok (.ifCond .lt 35, 3) := by decide +kernel
theorem dX12_put_7 : decode cX12_put 7 = .ok (.aload_n 0, 1) := by decide +kernel
theorem dX12_put_8 : decode cX12_put 8 = .ok (.getfield 9, 3) := by decide +kernel
theorem dX12_put_11 : decode cX12_put 11 = .ok (.aload_n 0, 1) := by decide +kernel
theorem dX12_put_12 : decode cX12_put 12 = .ok (.getfield 13, 3) := by decide +kernel
theorem dX12_put_15 : decode cX12_put 15 = .ok (.iload_n 1, 1) := by decide +kernel
theorem dX12_put_16 : decode cX12_put 16 = .ok (.iload_n 2, 1) := by decide +kernel
theorem dX12_put_17 : decode cX12_put 17 = .ok (.ishr, 1) := by decide +kernel
theorem dX12_put_18 : decode cX12_put 18 = .ok (.sipush 255, 3) := by decide +kernel
theorem dX12_put_21 : decode cX12_put 21 = .ok (.iand, 1) := by decide +kernel
theorem dX12_put_22 : decode cX12_put 22 = .ok (.iastore, 1) := by decide +kernel
theorem dX12_put_23 : decode cX12_put 23 = .ok (.aload_n 0, 1) := by decide +kernel
theorem dX12_put_24 : decode cX12_put 24 = .ok (.dup, 1) := by decide +kernel
theorem dX12_put_25 : decode cX12_put 25 = .ok (.getfield 13, 3) := by decide +kernel
theorem dX12_put_28 : decode cX12_put 28 = .ok (.iconst 1, 1) := by decide +kernel
theorem dX12_put_29 : decode cX12_put 29 = .ok (.iadd, 1) := by decide +kernel
theorem dX12_put_30 : decode cX12_put 30 = .ok (.putfield 13, 3) := by decide +kernel
theorem dX12_put_33 : decode cX12_put 33 = .ok (.iinc 2 (-8), 3) := by decide +kernel
theorem dX12_put_36 : decode cX12_put 36 = .ok (.goto (-33), 3) := by decide +kernel
theorem dX12_put_39 : decode cX12_put 39 = .ok (.return_, 1) := by decide +kernel
abbrev MX12_put : MI := (RX12, cX12_put, 3, 1, false)
def lcX12_put_1 : Ex Bool := (ge0 (lvI 2))
def lbX12_put_1 : St := (forB (seqS (astI (getR 12 0 (lvR 0)) (getI 12 1 (lvR 0)) (andI (shrI (lvI 1) (lvI 2)) (ciI (iI 255)))) (updI 12 1 (fun x y => x + y) (lvR 0) (ciI (iI 1)))) (incI 2 (iI (-8))))
def bX12_put : St := (seqS (scS 2 (seqS (lsI 2 (ciI (iI 24))) (whileS lcX12_put_1 lbX12_put_1))) retV)
theorem jX12_put : JS MX12_put 0 0 0 40 [] bX12_put :=
  (JS.seq (pc1 := 39) (JS.sc (JS.seq (pc1 := 3) (JS.is (pc1 := 2) (k := 2) (JX.bp (n := 24) kb24 dX12_put_0) rfl (show 2 < 3 by decide) dX12_put_2) (JS.while (l := 39) (lb := 39) (pc1 := 7) (pc2 := 36) (pc3 := 39) (CJ.ge0_f (tgt := 39) (pc1 := 4) (JX.il (k := 2) rfl dX12_put_3) dX12_put_4 rfl) (JS.forb (pc1 := 33) (JS.seq (pc1 := 23) (JS.ia (pc1 := 11) (pc2 := 15) (pc3 := 22) (JX.getR (pc1 := 8) (c := 12) (k := 0) (i := 9) (JX.al (k := 0) rfl dX12_put_7) cl12 (by decide) rfl fk12_9 dX12_put_8) (JX.getI (pc1 := 12) (c := 12) (k := 1) (i := 13) (JX.al (k := 0) rfl dX12_put_11) cl12 (by decide) rfl fk12_13 dX12_put_12) (JX.iand (pc1 := 18) (pc2 := 21) (JX.ishr (pc1 := 16) (pc2 := 17) (JX.il (k := 1) rfl dX12_put_15) (JX.il (k := 2) rfl dX12_put_16) dX12_put_17) (JX.sp (n := 255) ks255 dX12_put_18) dX12_put_21) dX12_put_22) (JS.upA (pc1 := 24) (pc2 := 29) (c := 12) (k := 1) (i := 13) (JX.al (k := 0) rfl dX12_put_23) dX12_put_24 cl12 (by decide) rfl fk12_13 (Or.inl rfl) dX12_put_25 (JX.ic (n := 1) rfl dX12_put_28) dX12_put_29 dX12_put_30)) (JS.inc (n := (-8)) rfl (show 2 < 3 by decide) dX12_put_33)) dX12_put_36 rfl (Or.inl rfl) (Or.inl rfl)))) (JS.retV dX12_put_39))
def mX12_put : MS := runM 3 none bX12_put
theorem aX12_put : MA yX12_put cX12_put 3 none 1 mX12_put := MA.of (plainFor_of_name (by decide)) jX12_put
theorem eX12_put (a0 : Nat) (a1 : Int32) (h : AH) : mX12_put [.ref a0, .int a1] h = (bX12_put [.val (.ref a0), .val (.int a1), .unset] h).bind (finM none) := rfl
/-! PieceStoreModel.refuses -/
theorem dX12_refuses_0 : decode cX12_refuses 0 = .ok (.aload_n 0, 1) := by decide +kernel
theorem dX12_refuses_1 : decode cX12_refuses 1 = .ok (.getfield 113, 3) := by decide +kernel
theorem dX12_refuses_4 : decode cX12_refuses 4 = .ok (.iload_n 1, 1) := by decide +kernel
theorem dX12_refuses_5 : decode cX12_refuses 5 = .ok (.dup2, 1) := by decide +kernel
theorem dX12_refuses_6 : decode cX12_refuses 6 = .ok (.iaload, 1) := by decide +kernel
theorem dX12_refuses_7 : decode cX12_refuses 7 = .ok (.iconst 1, 1) := by decide +kernel
theorem dX12_refuses_8 : decode cX12_refuses 8 = .ok (.iadd, 1) := by decide +kernel
theorem dX12_refuses_9 : decode cX12_refuses 9 = .ok (.iastore, 1) := by decide +kernel
theorem dX12_refuses_10 : decode cX12_refuses 10 = .ok (.iconst (-1), 1) := by decide +kernel
theorem dX12_refuses_11 : decode cX12_refuses 11 = .ok (.ireturn, 1) := by decide +kernel
abbrev MX12_refuses : MI := (RX12, cX12_refuses, 2, 1, false)
def bX12_refuses : St := (seqS (incA (getR 12 33 (lvR 0)) (lvI 1) 1) (retI (ciI (iI (-1)))))
theorem jX12_refuses : JS MX12_refuses 0 0 0 12 [] bX12_refuses :=
  (JS.seq (pc1 := 10) (JS.inA (pc1 := 4) (pc2 := 5) (JX.getR (pc1 := 1) (c := 12) (k := 33) (i := 113) (JX.al (k := 0) rfl dX12_refuses_0) cl12 (by decide) rfl fk12_113 dX12_refuses_1) (JX.il (k := 1) rfl dX12_refuses_4) dX12_refuses_5 dX12_refuses_6 dX12_refuses_7 dX12_refuses_8 dX12_refuses_9) (JS.retI (pc1 := 11) (JX.ic (n := (-1)) rfl dX12_refuses_10) dX12_refuses_11))
def mX12_refuses : MS := runM 2 (some (.int)) bX12_refuses
theorem aX12_refuses : MA yX12_refuses cX12_refuses 2 (some (.int)) 1 mX12_refuses := MA.of (plainFor_of_name (by decide)) jX12_refuses
theorem eX12_refuses (a0 : Nat) (a1 : Int32) (h : AH) : mX12_refuses [.ref a0, .int a1] h = (bX12_refuses [.val (.ref a0), .val (.int a1)] h).bind (finM (some (.int))) := rfl
/-! PieceStoreModel.feed -/
theorem dX12_feed_0 : decode cX12_feed 0 = .ok (.aload_n 0, 1) := by decide +kernel
theorem dX12_feed_1 : decode cX12_feed 1 = .ok (.getfield 13, 3) := by decide +kernel
theorem dX12_feed_4 : decode cX12_feed 4 = .ok (.bipush 20, 2) := by decide +kernel
theorem dX12_feed_6 : decode cX12_feed 6 = .ok (.iadd, 1) := by decide +kernel
theorem dX12_feed_7 : decode cX12_feed 7 = .ok (.sipush 1600, 3) := by decide +kernel
theorem dX12_feed_10 : decode cX12_feed 10 = .ok (.if_icmp .le 9, 3) := by decide +kernel
theorem dX12_feed_13 : decode cX12_feed 13 = .ok (.aload_n 0, 1) := by decide +kernel
theorem dX12_feed_14 : decode cX12_feed 14 = .ok (.iconst 0, 1) := by decide +kernel
theorem dX12_feed_15 : decode cX12_feed 15 = .ok (.invokevirtual 227, 3) := by decide +kernel
theorem dX12_feed_18 : decode cX12_feed 18 = .ok (.ireturn, 1) := by decide +kernel
theorem dX12_feed_19 : decode cX12_feed 19 = .ok (.aload_n 0, 1) := by decide +kernel
theorem dX12_feed_20 : decode cX12_feed 20 = .ok (.iload_n 1, 1) := by decide +kernel
theorem dX12_feed_21 : decode cX12_feed 21 = .ok (.invokevirtual 231, 3) := by decide +kernel
theorem dX12_feed_24 : decode cX12_feed 24 = .ok (.aload_n 0, 1) := by decide +kernel
theorem dX12_feed_25 : decode cX12_feed 25 = .ok (.iload_n 2, 1) := by decide +kernel
theorem dX12_feed_26 : decode cX12_feed 26 = .ok (.invokevirtual 231, 3) := by decide +kernel
theorem dX12_feed_29 : decode cX12_feed 29 = .ok (.aload_n 0, 1) := by decide +kernel
theorem dX12_feed_30 : decode cX12_feed 30 = .ok (.iload_n 3, 1) := by decide +kernel
theorem dX12_feed_31 : decode cX12_feed 31 = .ok (.invokevirtual 231, 3) := by decide +kernel
theorem dX12_feed_34 : decode cX12_feed 34 = .ok (.aload_n 0, 1) := by decide +kernel
theorem dX12_feed_35 : decode cX12_feed 35 = .ok (.iload 4, 2) := by decide +kernel
theorem dX12_feed_37 : decode cX12_feed 37 = .ok (.invokevirtual 231, 3) := by decide +kernel
theorem dX12_feed_40 : decode cX12_feed 40 = .ok (.aload_n 0, 1) := by decide +kernel
theorem dX12_feed_41 : decode cX12_feed 41 = .ok (.iload 5, 2) := by decide +kernel
theorem dX12_feed_43 : decode cX12_feed 43 = .ok (.invokevirtual 231, 3) := by decide +kernel
theorem dX12_feed_46 : decode cX12_feed 46 = .ok (.aload_n 0, 1) := by decide +kernel
theorem dX12_feed_47 : decode cX12_feed 47 = .ok (.getfield 13, 3) := by decide +kernel
theorem dX12_feed_50 : decode cX12_feed 50 = .ok (.ireturn, 1) := by decide +kernel
abbrev MX12_feed : MI := (RX12, cX12_feed, 6, 2, false)
def bX12_feed : St := (seqS (ifS (gtI (addI (getI 12 1 (lvR 0)) (ciI (iI 20))) (ciI (iI 1600))) (retI (calX decI (ckV 12 1) mX12_refuses (agC va_rf (lvR 0) (agC Value.int (ciI (iI 0)) agN))))) (seqS (calS (ckV 12 1) mX12_put (agC va_rf (lvR 0) (agC Value.int (lvI 1) agN))) (seqS (calS (ckV 12 1) mX12_put (agC va_rf (lvR 0) (agC Value.int (lvI 2) agN))) (seqS (calS (ckV 12 1) mX12_put (agC va_rf (lvR 0) (agC Value.int (lvI 3) agN))) (seqS (calS (ckV 12 1) mX12_put (agC va_rf (lvR 0) (agC Value.int (lvI 4) agN))) (seqS (calS (ckV 12 1) mX12_put (agC va_rf (lvR 0) (agC Value.int (lvI 5) agN))) (retI (getI 12 1 (lvR 0)))))))))
theorem jX12_feed : JS MX12_feed 0 0 0 51 [] bX12_feed :=
  (JS.seq (pc1 := 19) (JS.iff (l := 19) (pc1 := 13) (CJ.gt_f (tgt := 19) (pc1 := 7) (pc2 := 10) (JX.iadd (pc1 := 4) (pc2 := 6) (JX.getI (pc1 := 1) (c := 12) (k := 1) (i := 13) (JX.al (k := 0) rfl dX12_feed_0) cl12 (by decide) rfl fk12_13 dX12_feed_1) (JX.bp (n := 20) kb20 dX12_feed_4) dX12_feed_6) (JX.sp (n := 1600) ks1600 dX12_feed_7) dX12_feed_10 rfl) (JS.retI (pc1 := 18) (JX.call (pc1 := 15) decI_ok (JA.r (JX.al (k := 0) rfl dX12_feed_13) (JA.i (JX.ic (n := 0) rfl dX12_feed_14) JA.nil)) aX12_refuses (RunK.V (i := 227) (c := 12) (n := 1) cl12 rfl (CN nX12_refuses (by decide) (by decide)) gw1530 gw1532 gs54 dX12_feed_15) (by decide)) dX12_feed_18) (Or.inl rfl)) (JS.seq (pc1 := 24) (JS.call (pc1 := 21) (JA.r (JX.al (k := 0) rfl dX12_feed_19) (JA.i (JX.il (k := 1) rfl dX12_feed_20) JA.nil)) aX12_put (RunK.V (i := 231) (c := 12) (n := 1) cl12 rfl (CN nX12_put (by decide) (by decide)) gw1534 gw1536 gs55 dX12_feed_21)) (JS.seq (pc1 := 29) (JS.call (pc1 := 26) (JA.r (JX.al (k := 0) rfl dX12_feed_24) (JA.i (JX.il (k := 2) rfl dX12_feed_25) JA.nil)) aX12_put (RunK.V (i := 231) (c := 12) (n := 1) cl12 rfl (CN nX12_put (by decide) (by decide)) gw1534 gw1536 gs55 dX12_feed_26)) (JS.seq (pc1 := 34) (JS.call (pc1 := 31) (JA.r (JX.al (k := 0) rfl dX12_feed_29) (JA.i (JX.il (k := 3) rfl dX12_feed_30) JA.nil)) aX12_put (RunK.V (i := 231) (c := 12) (n := 1) cl12 rfl (CN nX12_put (by decide) (by decide)) gw1534 gw1536 gs55 dX12_feed_31)) (JS.seq (pc1 := 40) (JS.call (pc1 := 37) (JA.r (JX.al (k := 0) rfl dX12_feed_34) (JA.i (JX.il2 dX12_feed_35) JA.nil)) aX12_put (RunK.V (i := 231) (c := 12) (n := 1) cl12 rfl (CN nX12_put (by decide) (by decide)) gw1534 gw1536 gs55 dX12_feed_37)) (JS.seq (pc1 := 46) (JS.call (pc1 := 43) (JA.r (JX.al (k := 0) rfl dX12_feed_40) (JA.i (JX.il2 dX12_feed_41) JA.nil)) aX12_put (RunK.V (i := 231) (c := 12) (n := 1) cl12 rfl (CN nX12_put (by decide) (by decide)) gw1534 gw1536 gs55 dX12_feed_43)) (JS.retI (pc1 := 50) (JX.getI (pc1 := 47) (c := 12) (k := 1) (i := 13) (JX.al (k := 0) rfl dX12_feed_46) cl12 (by decide) rfl fk12_13 dX12_feed_47) dX12_feed_50)))))))
def mX12_feed : MS := runM 6 (some (.int)) bX12_feed
theorem aX12_feed : MA yX12_feed cX12_feed 6 (some (.int)) 2 mX12_feed := MA.of (plainFor_of_name (by decide)) jX12_feed
theorem eX12_feed (a0 : Nat) (a1 : Int32) (a2 : Int32) (a3 : Int32) (a4 : Int32) (a5 : Int32) (h : AH) : mX12_feed [.ref a0, .int a1, .int a2, .int a3, .int a4, .int a5] h = (bX12_feed [.val (.ref a0), .val (.int a1), .val (.int a2), .val (.int a3), .val (.int a4), .val (.int a5)] h).bind (finM (some (.int))) := rfl
/-! PieceStoreModel.end -/
theorem dX12_end_0 : decode cX12_end 0 = .ok (.iload_n 1, 1) := by decide +kernel
theorem dX12_end_1 : decode cX12_end 1 = .ok (.ifCond .lt 11, 3) := by decide +kernel
theorem dX12_end_4 : decode cX12_end 4 = .ok (.iload_n 1, 1) := by decide +kernel
theorem dX12_end_5 : decode cX12_end 5 = .ok (.aload_n 0, 1) := by decide +kernel
theorem dX12_end_6 : decode cX12_end 6 = .ok (.getfield 13, 3) := by decide +kernel
theorem dX12_end_9 : decode cX12_end 9 = .ok (.if_icmp .le 17, 3) := by decide +kernel
theorem dX12_end_12 : decode cX12_end 12 = .ok (.aload_n 0, 1) := by decide +kernel
theorem dX12_end_13 : decode cX12_end 13 = .ok (.iconst 0, 1) := by decide +kernel
theorem dX12_end_14 : decode cX12_end 14 = .ok (.invokevirtual 227, 3) := by decide +kernel
theorem dX12_end_17 : decode cX12_end 17 = .ok (.ifCond .lt 7, 3) := by decide +kernel
theorem dX12_end_20 : decode cX12_end 20 = .ok (.iconst 1, 1) := by decide +kernel
theorem dX12_end_21 : decode cX12_end 21 = .ok (.goto 4, 3) := by decide +kernel
theorem dX12_end_24 : decode cX12_end 24 = .ok (.iconst 0, 1) := by decide +kernel
theorem dX12_end_25 : decode cX12_end 25 = .ok (.ireturn, 1) := by decide +kernel
theorem dX12_end_26 : decode cX12_end 26 = .ok (.aload_n 0, 1) := by decide +kernel
theorem dX12_end_27 : decode cX12_end 27 = .ok (.iload_n 1, 1) := by decide +kernel
theorem dX12_end_28 : decode cX12_end 28 = .ok (.putfield 13, 3) := by decide +kernel
theorem dX12_end_31 : decode cX12_end 31 = .ok (.iconst 1, 1) := by decide +kernel
theorem dX12_end_32 : decode cX12_end 32 = .ok (.ireturn, 1) := by decide +kernel
abbrev MX12_end : MI := (RX12, cX12_end, 2, 2, false)
def bX12_end : St := (seqS (ifS (orX (lt0 (lvI 1)) (gtI (lvI 1) (getI 12 1 (lvR 0)))) (retI (iteX (ge0 (calX decI (ckV 12 1) mX12_refuses (agC va_rf (lvR 0) (agC Value.int (ciI (iI 0)) agN)))) (ciI (iI 1)) (ciI (iI 0))))) (seqS (putI 12 1 (lvR 0) (lvI 1)) (retI (ciI (iI 1)))))
theorem jX12_end : JS MX12_end 0 0 0 33 [] bX12_end :=
  (JS.seq (pc1 := 26) (JS.iff (l := 26) (pc1 := 12) (CJ.or_f (l := 12) (pc1 := 4) (CJ.lt0_t (tgt := 12) (pc1 := 1) (JX.il (k := 1) rfl dX12_end_0) dX12_end_1 rfl) (CJ.gt_f (tgt := 26) (pc1 := 5) (pc2 := 9) (JX.il (k := 1) rfl dX12_end_4) (JX.getI (pc1 := 6) (c := 12) (k := 1) (i := 13) (JX.al (k := 0) rfl dX12_end_5) cl12 (by decide) rfl fk12_13 dX12_end_6) dX12_end_9 rfl) (Or.inl rfl)) (JS.retI (pc1 := 25) (JX.ite (l := 24) (pc1 := 20) (pc2 := 21) (pc3 := 25) (lend := 25) (CJ.ge0_f (tgt := 24) (pc1 := 17) (JX.call (pc1 := 14) decI_ok (JA.r (JX.al (k := 0) rfl dX12_end_12) (JA.i (JX.ic (n := 0) rfl dX12_end_13) JA.nil)) aX12_refuses (RunK.V (i := 227) (c := 12) (n := 1) cl12 rfl (CN nX12_refuses (by decide) (by decide)) gw1530 gw1532 gs54 dX12_end_14) (by decide)) dX12_end_17 rfl) (JX.ic (n := 1) rfl dX12_end_20) dX12_end_21 rfl (JX.ic (n := 0) rfl dX12_end_24) (Or.inl rfl)) dX12_end_25) (Or.inl rfl)) (JS.seq (pc1 := 31) (JS.pI (pc1 := 27) (pc2 := 28) (c := 12) (k := 1) (i := 13) (JX.al (k := 0) rfl dX12_end_26) (JX.il (k := 1) rfl dX12_end_27) cl12 (by decide) rfl fk12_13 (Or.inl rfl) dX12_end_28) (JS.retI (pc1 := 32) (JX.ic (n := 1) rfl dX12_end_31) dX12_end_32)))
def mX12_end : MS := runM 2 (some (.boolean)) bX12_end
theorem aX12_end : MA yX12_end cX12_end 2 (some (.boolean)) 2 mX12_end := MA.of (plainFor_of_name (by decide)) jX12_end
theorem eX12_end (a0 : Nat) (a1 : Int32) (h : AH) : mX12_end [.ref a0, .int a1] h = (bX12_end [.val (.ref a0), .val (.int a1)] h).bind (finM (some (.boolean))) := rfl
/-! PieceStoreModel.blame -/
theorem dX12_blame_0 : decode cX12_blame 0 = .ok (.aload_n 0, 1) := by decide +kernel
theorem dX12_blame_1 : decode cX12_blame 1 = .ok (.getfield 36, 3) := by decide +kernel
theorem dX12_blame_4 : decode cX12_blame 4 = .ok (.ifCond .le 4, 3) := by decide +kernel
theorem dX12_blame_7 : decode cX12_blame 7 = .ok (.return_, 1) := by decide +kernel
theorem dX12_blame_8 : decode cX12_blame 8 = .ok (.aload_n 0, 1) := by decide +kernel
theorem dX12_blame_9 : decode cX12_blame 9 = .ok (.iload_n 1, 1) := by decide +kernel
theorem dX12_blame_10 : decode cX12_blame 10 = .ok (.putfield 36, 3) := by decide +kernel
theorem dX12_blame_13 : decode cX12_blame 13 = .ok (.aload_n 0, 1) := by decide +kernel
theorem dX12_blame_14 : decode cX12_blame 14 = .ok (.iload_n 2, 1) := by decide +kernel
theorem dX12_blame_15 : decode cX12_blame 15 = .ok (.putfield 39, 3) := by decide +kernel
theorem dX12_blame_18 : decode cX12_blame 18 = .ok (.return_, 1) := by decide +kernel
abbrev MX12_blame : MI := (RX12, cX12_blame, 3, 1, false)
def bX12_blame : St := (seqS (ifS (gt0 (getI 12 8 (lvR 0))) retV) (seqS (putI 12 8 (lvR 0) (lvI 1)) (seqS (putI 12 9 (lvR 0) (lvI 2)) retV)))
theorem jX12_blame : JS MX12_blame 0 0 0 19 [] bX12_blame :=
  (JS.seq (pc1 := 8) (JS.iff (l := 8) (pc1 := 7) (CJ.gt0_f (tgt := 8) (pc1 := 4) (JX.getI (pc1 := 1) (c := 12) (k := 8) (i := 36) (JX.al (k := 0) rfl dX12_blame_0) cl12 (by decide) rfl fk12_36 dX12_blame_1) dX12_blame_4 rfl) (JS.retV dX12_blame_7) (Or.inl rfl)) (JS.seq (pc1 := 13) (JS.pI (pc1 := 9) (pc2 := 10) (c := 12) (k := 8) (i := 36) (JX.al (k := 0) rfl dX12_blame_8) (JX.il (k := 1) rfl dX12_blame_9) cl12 (by decide) rfl fk12_36 (Or.inl rfl) dX12_blame_10) (JS.seq (pc1 := 18) (JS.pI (pc1 := 14) (pc2 := 15) (c := 12) (k := 9) (i := 39) (JX.al (k := 0) rfl dX12_blame_13) (JX.il (k := 2) rfl dX12_blame_14) cl12 (by decide) rfl fk12_39 (Or.inl rfl) dX12_blame_15) (JS.retV dX12_blame_18))))
def mX12_blame : MS := runM 3 none bX12_blame
theorem aX12_blame : MA yX12_blame cX12_blame 3 none 1 mX12_blame := MA.of (plainFor_of_name (by decide)) jX12_blame
theorem eX12_blame (a0 : Nat) (a1 : Int32) (a2 : Int32) (h : AH) : mX12_blame [.ref a0, .int a1, .int a2] h = (bX12_blame [.val (.ref a0), .val (.int a1), .val (.int a2)] h).bind (finM none) := rfl
/-! PieceStoreModel.isLetter -/
theorem dX12_isLetter_0 : decode cX12_isLetter 0 = .ok (.iload_n 0, 1) := by decide +kernel
theorem dX12_isLetter_1 : decode cX12_isLetter 1 = .ok (.bipush 97, 2) := by decide +kernel
theorem dX12_isLetter_3 : decode cX12_isLetter 3 = .ok (.if_icmp .lt 13, 3) := by decide +kernel
theorem dX12_isLetter_6 : decode cX12_isLetter 6 = .ok (.iload_n 0, 1) := by decide +kernel
theorem dX12_isLetter_7 : decode cX12_isLetter 7 = .ok (.bipush 122, 2) := by decide +kernel
theorem dX12_isLetter_9 : decode cX12_isLetter 9 = .ok (.if_icmp .gt 7, 3) := by decide +kernel
theorem dX12_isLetter_12 : decode cX12_isLetter 12 = .ok (.iconst 1, 1) := by decide +kernel
theorem dX12_isLetter_13 : decode cX12_isLetter 13 = .ok (.goto 4, 3) := by decide +kernel
theorem dX12_isLetter_16 : decode cX12_isLetter 16 = .ok (.iconst 0, 1) := by decide +kernel
theorem dX12_isLetter_17 : decode cX12_isLetter 17 = .ok (.ireturn, 1) := by decide +kernel
abbrev MX12_isLetter : MI := (RX12, cX12_isLetter, 1, 1, false)
def bX12_isLetter : St := (retI (iteX (andX (geI (lvI 0) (ciI (iI 97))) (leI (lvI 0) (ciI (iI 122)))) (ciI (iI 1)) (ciI (iI 0))))
theorem jX12_isLetter : JS MX12_isLetter 0 0 0 18 [] bX12_isLetter :=
  (JS.retI (pc1 := 17) (JX.ite (l := 16) (pc1 := 12) (pc2 := 13) (pc3 := 17) (lend := 17) (CJ.and_f (pc1 := 6) (CJ.ge_f (tgt := 16) (pc1 := 1) (pc2 := 3) (JX.il (k := 0) rfl dX12_isLetter_0) (JX.bp (n := 97) kb97 dX12_isLetter_1) dX12_isLetter_3 rfl) (CJ.le_f (tgt := 16) (pc1 := 7) (pc2 := 9) (JX.il (k := 0) rfl dX12_isLetter_6) (JX.bp (n := 122) kb122 dX12_isLetter_7) dX12_isLetter_9 rfl)) (JX.ic (n := 1) rfl dX12_isLetter_12) dX12_isLetter_13 rfl (JX.ic (n := 0) rfl dX12_isLetter_16) (Or.inl rfl)) dX12_isLetter_17)
def mX12_isLetter : MS := runM 1 (some (.boolean)) bX12_isLetter
theorem aX12_isLetter : MA yX12_isLetter cX12_isLetter 1 (some (.boolean)) 1 mX12_isLetter := MA.of (plainFor_of_name (by decide)) jX12_isLetter
theorem eX12_isLetter (a0 : Int32) (h : AH) : mX12_isLetter [.int a0] h = (bX12_isLetter [.val (.int a0)] h).bind (finM (some (.boolean))) := rfl
/-! PieceStoreModel.isDigit -/
theorem dX12_isDigit_0 : decode cX12_isDigit 0 = .ok (.iload_n 0, 1) := by decide +kernel
theorem dX12_isDigit_1 : decode cX12_isDigit 1 = .ok (.bipush 48, 2) := by decide +kernel
theorem dX12_isDigit_3 : decode cX12_isDigit 3 = .ok (.if_icmp .lt 13, 3) := by decide +kernel
theorem dX12_isDigit_6 : decode cX12_isDigit 6 = .ok (.iload_n 0, 1) := by decide +kernel
theorem dX12_isDigit_7 : decode cX12_isDigit 7 = .ok (.bipush 57, 2) := by decide +kernel
theorem dX12_isDigit_9 : decode cX12_isDigit 9 = .ok (.if_icmp .gt 7, 3) := by decide +kernel
theorem dX12_isDigit_12 : decode cX12_isDigit 12 = .ok (.iconst 1, 1) := by decide +kernel
theorem dX12_isDigit_13 : decode cX12_isDigit 13 = .ok (.goto 4, 3) := by decide +kernel
theorem dX12_isDigit_16 : decode cX12_isDigit 16 = .ok (.iconst 0, 1) := by decide +kernel
theorem dX12_isDigit_17 : decode cX12_isDigit 17 = .ok (.ireturn, 1) := by decide +kernel
abbrev MX12_isDigit : MI := (RX12, cX12_isDigit, 1, 1, false)
def bX12_isDigit : St := (retI (iteX (andX (geI (lvI 0) (ciI (iI 48))) (leI (lvI 0) (ciI (iI 57)))) (ciI (iI 1)) (ciI (iI 0))))
theorem jX12_isDigit : JS MX12_isDigit 0 0 0 18 [] bX12_isDigit :=
  (JS.retI (pc1 := 17) (JX.ite (l := 16) (pc1 := 12) (pc2 := 13) (pc3 := 17) (lend := 17) (CJ.and_f (pc1 := 6) (CJ.ge_f (tgt := 16) (pc1 := 1) (pc2 := 3) (JX.il (k := 0) rfl dX12_isDigit_0) (JX.bp (n := 48) kb48 dX12_isDigit_1) dX12_isDigit_3 rfl) (CJ.le_f (tgt := 16) (pc1 := 7) (pc2 := 9) (JX.il (k := 0) rfl dX12_isDigit_6) (JX.bp (n := 57) kb57 dX12_isDigit_7) dX12_isDigit_9 rfl)) (JX.ic (n := 1) rfl dX12_isDigit_12) dX12_isDigit_13 rfl (JX.ic (n := 0) rfl dX12_isDigit_16) (Or.inl rfl)) dX12_isDigit_17)
def mX12_isDigit : MS := runM 1 (some (.boolean)) bX12_isDigit
theorem aX12_isDigit : MA yX12_isDigit cX12_isDigit 1 (some (.boolean)) 1 mX12_isDigit := MA.of (plainFor_of_name (by decide)) jX12_isDigit
theorem eX12_isDigit (a0 : Int32) (h : AH) : mX12_isDigit [.int a0] h = (bX12_isDigit [.val (.int a0)] h).bind (finM (some (.boolean))) := rfl
/-! PieceStoreModel.lex -/
theorem dX12_lex_0 : decode cX12_lex 0 = .ok (.aload_n 0, 1) := by decide +kernel
theorem dX12_lex_1 : decode cX12_lex 1 = .ok (.getfield 48, 3) := by decide +kernel
theorem dX12_lex_4 : decode cX12_lex 4 = .ok (.iconst (-1), 1) := by decide +kernel
theorem dX12_lex_5 : decode cX12_lex 5 = .ok (.if_icmp .eq 12, 3) := by decide +kernel
theorem dX12_lex_8 : decode cX12_lex 8 = .ok (.aload_n 0, 1) := by decide +kernel
theorem dX12_lex_9 : decode cX12_lex 9 = .ok (.iconst 1, 1) := by decide +kernel
theorem dX12_lex_10 : decode cX12_lex 10 = .ok (.aload_n 0, 1) := by decide +kernel
theorem dX12_lex_11 : decode cX12_lex 11 = .ok (.getfield 48, 3) := by decide +kernel
theorem dX12_lex_14 : decode cX12_lex 14 = .ok (.invokevirtual 235, 3) := by decide +kernel
theorem dX12_lex_17 : decode cX12_lex 17 = .ok (.return_, 1) := by decide +kernel
abbrev MX12_lex : MI := (RX12, cX12_lex, 1, 2, false)
def bX12_lex : St := (seqS (ifS (neI (getI 12 12 (lvR 0)) (ciI (iI (-1)))) (calS (ckV 12 2) mX12_blame (agC va_rf (lvR 0) (agC Value.int (ciI (iI 1)) (agC Value.int (getI 12 12 (lvR 0)) agN))))) retV)
theorem jX12_lex : JS MX12_lex 0 0 0 18 [] bX12_lex :=
  (JS.seq (pc1 := 17) (JS.iff (l := 17) (pc1 := 8) (CJ.ne_f (tgt := 17) (pc1 := 4) (pc2 := 5) (JX.getI (pc1 := 1) (c := 12) (k := 12) (i := 48) (JX.al (k := 0) rfl dX12_lex_0) cl12 (by decide) rfl fk12_48 dX12_lex_1) (JX.ic (n := (-1)) rfl dX12_lex_4) dX12_lex_5 rfl) (JS.call (pc1 := 14) (JA.r (JX.al (k := 0) rfl dX12_lex_8) (JA.i (JX.ic (n := 1) rfl dX12_lex_9) (JA.i (JX.getI (pc1 := 11) (c := 12) (k := 12) (i := 48) (JX.al (k := 0) rfl dX12_lex_10) cl12 (by decide) rfl fk12_48 dX12_lex_11) JA.nil))) aX12_blame (RunK.V (i := 235) (c := 12) (n := 2) cl12 rfl (CN nX12_blame (by decide) (by decide)) gw1577 gw1579 gs62 dX12_lex_14)) (Or.inl rfl)) (JS.retV dX12_lex_17))
def mX12_lex : MS := runM 1 none bX12_lex
theorem aX12_lex : MA yX12_lex cX12_lex 1 none 2 mX12_lex := MA.of (plainFor_of_name (by decide)) jX12_lex
theorem eX12_lex (a0 : Nat) (h : AH) : mX12_lex [.ref a0] h = (bX12_lex [.val (.ref a0)] h).bind (finM none) := rfl
/-! PieceStoreModel.ahead -/
theorem dX12_ahead_0 : decode cX12_ahead 0 = .ok (.aload_n 0, 1) := by decide +kernel
theorem dX12_ahead_1 : decode cX12_ahead 1 = .ok (.getfield 26, 3) := by decide +kernel
theorem dX12_ahead_4 : decode cX12_ahead 4 = .ok (.istore_n 1, 1) := by decide +kernel
theorem dX12_ahead_5 : decode cX12_ahead 5 = .ok (.iload_n 1, 1) := by decide +kernel
theorem dX12_ahead_6 : decode cX12_ahead 6 = .ok (.aload_n 0, 1) := by decide +kernel
theorem dX12_ahead_7 : decode cX12_ahead 7 = .ok (.getfield 17, 3) := by decide +kernel
theorem dX12_ahead_10 : decode cX12_ahead 10 = .ok (.if_icmp .ge 31, 3) := by decide +kernel
theorem dX12_ahead_13 : decode cX12_ahead 13 = .ok (.aload_n 0, 1) := by decide +kernel
theorem dX12_ahead_14 : decode cX12_ahead 14 = .ok (.getfield 9, 3) := by decide +kernel
theorem dX12_ahead_17 : decode cX12_ahead 17 = .ok (.iload_n 1, 1) := by decide +kernel
theorem dX12_ahead_18 : decode cX12_ahead 18 = .ok (.iaload, 1) := by decide +kernel
theorem dX12_ahead_19 : decode cX12_ahead 19 = .ok (.bipush 32, 2) := by decide +kernel
theorem dX12_ahead_21 : decode cX12_ahead 21 = .ok (.if_icmp .eq 14, 3) := by decide +kernel
theorem dX12_ahead_24 : decode cX12_ahead 24 = .ok (.aload_n 0, 1) := by decide +kernel
theorem dX12_ahead_25 : decode cX12_ahead 25 = .ok (.getfield 9, 3) := by decide +kernel
theorem dX12_ahead_28 : decode cX12_ahead 28 = .ok (.iload_n 1, 1) := by decide +kernel
theorem dX12_ahead_29 : decode cX12_ahead 29 = .ok (.iaload, 1) := by decide +kernel
theorem dX12_ahead_30 : decode cX12_ahead 30 = .ok (.bipush 10, 2) := by decide +kernel
theorem dX12_ahead_32 : decode cX12_ahead 32 = .ok (.if_icmp .ne 9, 3) := by decide +kernel
theorem dX12_ahead_35 : decode cX12_ahead 35 = .ok (.iinc 1 1, 3) := by decide +kernel
theorem dX12_ahead_38 : decode cX12_ahead 38 = .ok (.goto (-33), 3) := by decide +kernel
theorem dX12_ahead_41 : decode cX12_ahead 41 = .ok (.aload_n 0, 1) := by decide +kernel
theorem dX12_ahead_42 : decode cX12_ahead 42 = .ok (.iload_n 1, 1) := by decide +kernel
theorem dX12_ahead_43 : decode cX12_ahead 43 = .ok (.putfield 23, 3) := by decide +kernel
theorem dX12_ahead_46 : decode cX12_ahead 46 = .ok (.aload_n 0, 1) := by decide +kernel
theorem dX12_ahead_47 : decode cX12_ahead 47 = .ok (.iload_n 1, 1) := by decide +kernel
theorem dX12_ahead_48 : decode cX12_ahead 48 = .ok (.putfield 26, 3) := by decide +kernel
theorem dX12_ahead_51 : decode cX12_ahead 51 = .ok (.aload_n 0, 1) := by decide +kernel
theorem dX12_ahead_52 : decode cX12_ahead 52 = .ok (.iconst 0, 1) := by decide +kernel
theorem dX12_ahead_53 : decode cX12_ahead 53 = .ok (.putfield 20, 3) := by decide +kernel
theorem dX12_ahead_56 : decode cX12_ahead 56 = .ok (.aload_n 0, 1) := by decide +kernel
theorem dX12_ahead_57 : decode cX12_ahead 57 = .ok (.iconst (-1), 1) := by decide +kernel
theorem dX12_ahead_58 : decode cX12_ahead 58 = .ok (.putfield 48, 3) := by decide +kernel
theorem dX12_ahead_61 : decode cX12_ahead 61 = .ok (.iload_n 1, 1) := by decide +kernel
theorem dX12_ahead_62 : decode cX12_ahead 62 = .ok (.aload_n 0, 1) := by decide +kernel
theorem dX12_ahead_63 : decode cX12_ahead 63 = .ok (.getfield 17, 3) := by decide +kernel
theorem dX12_ahead_66 : decode cX12_ahead 66 = .ok (.if_icmp .lt 4, 3) := by decide +kernel
theorem dX12_ahead_69 : decode cX12_ahead 69 = .ok (.return_, 1) := by decide +kernel
theorem dX12_ahead_70 : decode cX12_ahead 70 = .ok (.aload_n 0, 1) := by decide +kernel
theorem dX12_ahead_71 : decode cX12_ahead 71 = .ok (.getfield 9, 3) := by decide +kernel
theorem dX12_ahead_74 : decode cX12_ahead 74 = .ok (.iload_n 1, 1) := by decide +kernel
theorem dX12_ahead_75 : decode cX12_ahead 75 = .ok (.iaload, 1) := by decide +kernel
theorem dX12_ahead_76 : decode cX12_ahead 76 = .ok (.invokestatic 239, 3) := by decide +kernel
theorem dX12_ahead_79 : decode cX12_ahead 79 = .ok (.istore_n 2, 1) := by decide +kernel
theorem dX12_ahead_80 : decode cX12_ahead 80 = .ok (.aload_n 0, 1) := by decide +kernel
theorem dX12_ahead_81 : decode cX12_ahead 81 = .ok (.getfield 9, 3) := by decide +kernel
theorem dX12_ahead_84 : decode cX12_ahead 84 = .ok (.iload_n 1, 1) := by decide +kernel
theorem dX12_ahead_85 : decode cX12_ahead 85 = .ok (.iaload, 1) := by decide +kernel
theorem dX12_ahead_86 : decode cX12_ahead 86 = .ok (.invokestatic 243, 3) := by decide +kernel
theorem dX12_ahead_89 : decode cX12_ahead 89 = .ok (.istore_n 3, 1) := by decide +kernel
theorem dX12_ahead_90 : decode cX12_ahead 90 = .ok (.iload_n 2, 1) := by decide +kernel
theorem dX12_ahead_91 : decode cX12_ahead 91 = .ok (.ifCond .ne 7, 3) := by decide +kernel
theorem dX12_ahead_94 : decode cX12_ahead 94 = .ok (.iload_n 3, 1) := by decide +kernel
theorem dX12_ahead_95 : decode cX12_ahead 95 = .ok (.ifCond .eq 40, 3) := by decide +kernel
theorem dX12_ahead_98 : decode cX12_ahead 98 = .ok (.iload_n 1, 1) := by decide +kernel
theorem dX12_ahead_99 : decode cX12_ahead 99 = .ok (.ifCond .le 36, 3) := by decide +kernel
theorem dX12_ahead_102 : decode cX12_ahead 102 = .ok (.aload_n 0, 1) := by decide +kernel
theorem dX12_ahead_103 : decode cX12_ahead 103 = .ok (.getfield 9, 3) := by decide +kernel
theorem dX12_ahead_106 : decode cX12_ahead 106 = .ok (.iload_n 1, 1) := by decide +kernel
theorem dX12_ahead_107 : decode cX12_ahead 107 = .ok (.iconst 1, 1) := by decide +kernel
theorem dX12_ahead_108 : decode cX12_ahead 108 = .ok (.isub, 1) := by decide +kernel
theorem dX12_ahead_109 : decode cX12_ahead 109 = .ok (.iaload, 1) := by decide +kernel
theorem dX12_ahead_110 : decode cX12_ahead 110 = .ok (.invokestatic 239, 3) := by decide +kernel
theorem dX12_ahead_113 : decode cX12_ahead 113 = .ok (.ifCond .ne 17, 3) := by decide +kernel
theorem dX12_ahead_116 : decode cX12_ahead 116 = .ok (.aload_n 0, 1) := by decide +kernel
theorem dX12_ahead_117 : decode cX12_ahead 117 = .ok (.getfield 9, 3) := by decide +kernel
theorem dX12_ahead_120 : decode cX12_ahead 120 = .ok (.iload_n 1, 1) := by decide +kernel
theorem dX12_ahead_121 : decode cX12_ahead 121 = .ok (.iconst 1, 1) := by decide +kernel
theorem dX12_ahead_122 : decode cX12_ahead 122 = .ok (.isub, 1) := by decide +kernel
theorem dX12_ahead_123 : decode cX12_ahead 123 = .ok (.iaload, 1) := by decide +kernel
theorem dX12_ahead_124 : decode cX12_ahead 124 = .ok (.invokestatic 243, 3) := by decide +kernel
theorem dX12_ahead_127 : decode cX12_ahead 127 = .ok (.ifCond .eq 8, 3) := by decide +kernel
theorem dX12_ahead_130 : decode cX12_ahead 130 = .ok (.aload_n 0, 1) := by decide +kernel
theorem dX12_ahead_131 : decode cX12_ahead 131 = .ok (.iload_n 1, 1) := by decide +kernel
theorem dX12_ahead_132 : decode cX12_ahead 132 = .ok (.putfield 48, 3) := by decide +kernel
theorem dX12_ahead_135 : decode cX12_ahead 135 = .ok (.aload_n 0, 1) := by decide +kernel
theorem dX12_ahead_136 : decode cX12_ahead 136 = .ok (.iconst 0, 1) := by decide +kernel
theorem dX12_ahead_137 : decode cX12_ahead 137 = .ok (.putfield 29, 3) := by decide +kernel
theorem dX12_ahead_140 : decode cX12_ahead 140 = .ok (.aload_n 0, 1) := by decide +kernel
theorem dX12_ahead_141 : decode cX12_ahead 141 = .ok (.lconst 0, 1) := by decide +kernel
theorem dX12_ahead_142 : decode cX12_ahead 142 = .ok (.putfield 32, 3) := by decide +kernel
theorem dX12_ahead_145 : decode cX12_ahead 145 = .ok (.aload_n 0, 1) := by decide +kernel
theorem dX12_ahead_146 : decode cX12_ahead 146 = .ok (.iconst 3, 1) := by decide +kernel
theorem dX12_ahead_147 : decode cX12_ahead 147 = .ok (.putfield 20, 3) := by decide +kernel
theorem dX12_ahead_150 : decode cX12_ahead 150 = .ok (.aload_n 0, 1) := by decide +kernel
theorem dX12_ahead_151 : decode cX12_ahead 151 = .ok (.iload_n 1, 1) := by decide +kernel
theorem dX12_ahead_152 : decode cX12_ahead 152 = .ok (.iconst 1, 1) := by decide +kernel
theorem dX12_ahead_153 : decode cX12_ahead 153 = .ok (.iadd, 1) := by decide +kernel
theorem dX12_ahead_154 : decode cX12_ahead 154 = .ok (.putfield 26, 3) := by decide +kernel
theorem dX12_ahead_157 : decode cX12_ahead 157 = .ok (.iload_n 2, 1) := by decide +kernel
theorem dX12_ahead_158 : decode cX12_ahead 158 = .ok (.ifCond .ne 18, 3) := by decide +kernel
theorem dX12_ahead_161 : decode cX12_ahead 161 = .ok (.iload_n 3, 1) := by decide +kernel
theorem dX12_ahead_162 : decode cX12_ahead 162 = .ok (.ifCond .ne 14, 3) := by decide +kernel
theorem dX12_ahead_165 : decode cX12_ahead 165 = .ok (.aload_n 0, 1) := by decide +kernel
theorem dX12_ahead_166 : decode cX12_ahead 166 = .ok (.aload_n 0, 1) := by decide +kernel
theorem dX12_ahead_167 : decode cX12_ahead 167 = .ok (.getfield 9, 3) := by decide +kernel
theorem dX12_ahead_170 : decode cX12_ahead 170 = .ok (.iload_n 1, 1) := by decide +kernel
theorem dX12_ahead_171 : decode cX12_ahead 171 = .ok (.iaload, 1) := by decide +kernel
theorem dX12_ahead_172 : decode cX12_ahead 172 = .ok (.putfield 29, 3) := by decide +kernel
theorem dX12_ahead_175 : decode cX12_ahead 175 = .ok (.return_, 1) := by decide +kernel
theorem dX12_ahead_176 : decode cX12_ahead 176 = .ok (.aload_n 0, 1) := by decide +kernel
theorem dX12_ahead_177 : decode cX12_ahead 177 = .ok (.iload_n 2, 1) := by decide +kernel
theorem dX12_ahead_178 : decode cX12_ahead 178 = .ok (.ifCond .eq 7, 3) := by decide +kernel
theorem dX12_ahead_181 : decode cX12_ahead 181 = .ok (.iconst 1, 1) := by decide +kernel
theorem dX12_ahead_182 : decode cX12_ahead 182 = .ok (.goto 4, 3) := by decide +kernel
theorem dX12_ahead_185 : decode cX12_ahead 185 = .ok (.iconst 2, 1) := by decide +kernel
theorem dX12_ahead_186 : decode cX12_ahead 186 = .ok (.putfield 20, 3) := by decide +kernel
theorem dX12_ahead_189 : decode cX12_ahead 189 = .ok (.iload_n 2, 1) := by decide +kernel
theorem dX12_ahead_190 : decode cX12_ahead 190 = .ok (.ifCond .eq 8, 3) := by decide +kernel
theorem dX12_ahead_193 : decode cX12_ahead 193 = .ok (.bipush 6, 2) := by decide +kernel
theorem dX12_ahead_195 : decode cX12_ahead 195 = .ok (.goto 4, 3) := by decide +kernel
theorem dX12_ahead_198 : decode cX12_ahead 198 = .ok (.iconst 4, 1) := by decide +kernel
theorem dX12_ahead_199 : decode cX12_ahead 199 = .ok (.istore 4, 2) := by decide +kernel
theorem dX12_ahead_201 : decode cX12_ahead 201 = .ok (.iconst 0, 1) := by decide +kernel
theorem dX12_ahead_202 : decode cX12_ahead 202 = .ok (.istore 5, 2) := by decide +kernel
theorem dX12_ahead_204 : decode cX12_ahead 204 = .ok (.iload_n 1, 1) := by decide +kernel
theorem dX12_ahead_205 : decode cX12_ahead 205 = .ok (.aload_n 0, 1) := by decide +kernel
theorem dX12_ahead_206 : decode cX12_ahead 206 = .ok (.getfield 17, 3) := by decide +kernel
theorem dX12_ahead_209 : decode cX12_ahead 209 = .ok (.if_icmp .ge 125, 3) := by decide +kernel
theorem dX12_ahead_212 : decode cX12_ahead 212 = .ok (.iload_n 2, 1) := by decide +kernel
theorem dX12_ahead_213 : decode cX12_ahead 213 = .ok (.ifCond .eq 18, 3) := by decide +kernel
theorem dX12_ahead_216 : decode cX12_ahead 216 = .ok (.aload_n 0, 1) := by decide +kernel
theorem dX12_ahead_217 : decode cX12_ahead 217 = .ok (.getfield 9, 3) := by decide +kernel
theorem dX12_ahead_220 : decode cX12_ahead 220 = .ok (.iload_n 1, 1) := by decide +kernel
theorem dX12_ahead_221 : decode cX12_ahead 221 = .ok (.iaload, 1) := by decide +kernel
theorem dX12_ahead_222 : decode cX12_ahead 222 = .ok (.invokestatic 239, 3) := by decide +kernel
theorem dX12_ahead_225 : decode cX12_ahead 225 = .ok (.ifCond .eq 109, 3) := by decide +kernel
theorem dX12_ahead_228 : decode cX12_ahead 228 = .ok (.goto 15, 3) := by decide +kernel
theorem dX12_ahead_231 : decode cX12_ahead 231 = .ok (.aload_n 0, 1) := by decide +kernel
theorem dX12_ahead_232 : decode cX12_ahead 232 = .ok (.getfield 9, 3) := by decide +kernel
theorem dX12_ahead_235 : decode cX12_ahead 235 = .ok (.iload_n 1, 1) := by decide +kernel
theorem dX12_ahead_236 : decode cX12_ahead 236 = .ok (.iaload, 1) := by decide +kernel
theorem dX12_ahead_237 : decode cX12_ahead 237 = .ok (.invokestatic 243, 3) := by decide +kernel
theorem dX12_ahead_240 : decode cX12_ahead 240 = .ok (.ifCond .eq 94, 3) := by decide +kernel
theorem dX12_ahead_243 : decode cX12_ahead 243 = .ok (.iload 5, 2) := by decide +kernel
theorem dX12_ahead_245 : decode cX12_ahead 245 = .ok (.iload 4, 2) := by decide +kernel
theorem dX12_ahead_247 : decode cX12_ahead 247 = .ok (.if_icmp .ne 16, 3) := by decide +kernel
theorem dX12_ahead_250 : decode cX12_ahead 250 = .ok (.aload_n 0, 1) := by decide +kernel
theorem dX12_ahead_251 : decode cX12_ahead 251 = .ok (.getfield 48, 3) := by decide +kernel
theorem dX12_ahead_254 : decode cX12_ahead 254 = .ok (.iconst (-1), 1) := by decide +kernel
theorem dX12_ahead_255 : decode cX12_ahead 255 = .ok (.if_icmp .ne 8, 3) := by decide +kernel
theorem dX12_ahead_258 : decode cX12_ahead 258 = .ok (.aload_n 0, 1) := by decide +kernel
theorem dX12_ahead_259 : decode cX12_ahead 259 = .ok (.iload_n 1, 1) := by decide +kernel
theorem dX12_ahead_260 : decode cX12_ahead 260 = .ok (.putfield 48, 3) := by decide +kernel
theorem dX12_ahead_263 : decode cX12_ahead 263 = .ok (.iload 5, 2) := by decide +kernel
theorem dX12_ahead_265 : decode cX12_ahead 265 = .ok (.iload 4, 2) := by decide +kernel
theorem dX12_ahead_267 : decode cX12_ahead 267 = .ok (.if_icmp .ge 26, 3) := by decide +kernel
theorem dX12_ahead_270 : decode cX12_ahead 270 = .ok (.iload_n 2, 1) := by decide +kernel
theorem dX12_ahead_271 : decode cX12_ahead 271 = .ok (.ifCond .eq 22, 3) := by decide +kernel
theorem dX12_ahead_274 : decode cX12_ahead 274 = .ok (.aload_n 0, 1) := by decide +kernel
theorem dX12_ahead_275 : decode cX12_ahead 275 = .ok (.aload_n 0, 1) := by decide +kernel
theorem dX12_ahead_276 : decode cX12_ahead 276 = .ok (.getfield 32, 3) := by decide +kernel
theorem dX12_ahead_279 : decode cX12_ahead 279 = .ok (.bipush 8, 2) := by decide +kernel
theorem dX12_ahead_281 : decode cX12_ahead 281 = .ok (.lshl, 1) := by decide +kernel
theorem dX12_ahead_282 : decode cX12_ahead 282 = .ok (.aload_n 0, 1) := by decide +kernel
theorem dX12_ahead_283 : decode cX12_ahead 283 = .ok (.getfield 9, 3) := by decide +kernel
theorem dX12_ahead_286 : decode cX12_ahead 286 = .ok (.iload_n 1, 1) := by decide +kernel
theorem dX12_ahead_287 : decode cX12_ahead 287 = .ok (.iaload, 1) := by decide +kernel
theorem dX12_ahead_288 : decode cX12_ahead 288 = .ok (.i2l, 1) := by decide +kernel
theorem dX12_ahead_289 : decode cX12_ahead 289 = .ok (.lor, 1) := by decide +kernel
theorem dX12_ahead_290 : decode cX12_ahead 290 = .ok (.putfield 32, 3) := by decide +kernel
theorem dX12_ahead_293 : decode cX12_ahead 293 = .ok (.iload 5, 2) := by decide +kernel
theorem dX12_ahead_295 : decode cX12_ahead 295 = .ok (.iload 4, 2) := by decide +kernel
theorem dX12_ahead_297 : decode cX12_ahead 297 = .ok (.if_icmp .ge 28, 3) := by decide +kernel
theorem dX12_ahead_300 : decode cX12_ahead 300 = .ok (.iload_n 3, 1) := by decide +kernel
theorem dX12_ahead_301 : decode cX12_ahead 301 = .ok (.ifCond .eq 24, 3) := by decide +kernel
theorem dX12_ahead_304 : decode cX12_ahead 304 = .ok (.aload_n 0, 1) := by decide +kernel
theorem dX12_ahead_305 : decode cX12_ahead 305 = .ok (.bipush 10, 2) := by decide +kernel
theorem dX12_ahead_307 : decode cX12_ahead 307 = .ok (.aload_n 0, 1) := by decide +kernel
theorem dX12_ahead_308 : decode cX12_ahead 308 = .ok (.getfield 29, 3) := by decide +kernel
theorem dX12_ahead_311 : decode cX12_ahead 311 = .ok (.imul, 1) := by decide +kernel
theorem dX12_ahead_312 : decode cX12_ahead 312 = .ok (.aload_n 0, 1) := by decide +kernel
theorem dX12_ahead_313 : decode cX12_ahead 313 = .ok (.getfield 9, 3) := by decide +kernel
theorem dX12_ahead_316 : decode cX12_ahead 316 = .ok (.iload_n 1, 1) := by decide +kernel
theorem dX12_ahead_317 : decode cX12_ahead 317 = .ok (.iaload, 1) := by decide +kernel
theorem dX12_ahead_318 : decode cX12_ahead 318 = .ok (.iadd, 1) := by decide +kernel
theorem dX12_ahead_319 : decode cX12_ahead 319 = .ok (.bipush 48, 2) := by decide +kernel
theorem dX12_ahead_321 : decode cX12_ahead 321 = .ok (.isub, 1) := by decide +kernel
theorem dX12_ahead_322 : decode cX12_ahead 322 = .ok (.putfield 29, 3) := by decide +kernel
theorem dX12_ahead_325 : decode cX12_ahead 325 = .ok (.iinc 5 1, 3) := by decide +kernel
theorem dX12_ahead_328 : decode cX12_ahead 328 = .ok (.iinc 1 1, 3) := by decide +kernel
theorem dX12_ahead_331 : decode cX12_ahead 331 = .ok (.goto (-127), 3) := by decide +kernel
theorem dX12_ahead_334 : decode cX12_ahead 334 = .ok (.aload_n 0, 1) := by decide +kernel
theorem dX12_ahead_335 : decode cX12_ahead 335 = .ok (.iload_n 1, 1) := by decide +kernel
theorem dX12_ahead_336 : decode cX12_ahead 336 = .ok (.putfield 26, 3) := by decide +kernel
theorem dX12_ahead_339 : decode cX12_ahead 339 = .ok (.return_, 1) := by decide +kernel
abbrev MX12_ahead : MI := (RX12, cX12_ahead, 6, 2, false)
def lcX12_ahead_1 : Ex Bool := (andX (ltI (lvI 1) (getI 12 2 (lvR 0))) (orX (eqI (aldI 2 (getR 12 0 (lvR 0)) (lvI 1)) (ciI (iI 32))) (eqI (aldI 2 (getR 12 0 (lvR 0)) (lvI 1)) (ciI (iI 10)))))
def lbX12_ahead_1 : St := (incI 1 (iI 1))
def lcX12_ahead_2 : Ex Bool := (andX (ltI (lvI 1) (getI 12 2 (lvR 0))) (iteX (ne0 (lvI 2)) (ne0 (calX decI (ckS 1) mX12_isLetter (agC Value.int (aldI 2 (getR 12 0 (lvR 0)) (lvI 1)) agN))) (ne0 (calX decI (ckS 1) mX12_isDigit (agC Value.int (aldI 2 (getR 12 0 (lvR 0)) (lvI 1)) agN)))))
def lbX12_ahead_2 : St := (seqS (ifS (andX (eqI (lvI 5) (lvI 4)) (eqI (getI 12 12 (lvR 0)) (ciI (iI (-1))))) (putI 12 12 (lvR 0) (lvI 1))) (seqS (ifS (andX (ltI (lvI 5) (lvI 4)) (ne0 (lvI 2))) (putL 12 7 (lvR 0) (orL (shlL (getL 12 7 (lvR 0)) (ciI (iI 8))) (i2L (aldI 2 (getR 12 0 (lvR 0)) (lvI 1)))))) (seqS (ifS (andX (ltI (lvI 5) (lvI 4)) (ne0 (lvI 3))) (putI 12 6 (lvR 0) (subI (addI (mulI (ciI (iI 10)) (getI 12 6 (lvR 0))) (aldI 2 (getR 12 0 (lvR 0)) (lvI 1))) (ciI (iI 48))))) (seqS (incI 5 (iI 1)) (incI 1 (iI 1))))))
def bX12_ahead : St := (seqS (lsI 1 (getI 12 5 (lvR 0))) (seqS (whileS lcX12_ahead_1 lbX12_ahead_1) (seqS (putI 12 4 (lvR 0) (lvI 1)) (seqS (putI 12 5 (lvR 0) (lvI 1)) (seqS (putI 12 3 (lvR 0) (ciI (iI 0))) (seqS (putI 12 12 (lvR 0) (ciI (iI (-1)))) (seqS (ifS (geI (lvI 1) (getI 12 2 (lvR 0))) retV) (seqS (lsI 2 (calX decI (ckS 1) mX12_isLetter (agC Value.int (aldI 2 (getR 12 0 (lvR 0)) (lvI 1)) agN))) (seqS (lsI 3 (calX decI (ckS 1) mX12_isDigit (agC Value.int (aldI 2 (getR 12 0 (lvR 0)) (lvI 1)) agN))) (seqS (ifS (andX (andX (orX (ne0 (lvI 2)) (ne0 (lvI 3))) (gt0 (lvI 1))) (orX (ne0 (calX decI (ckS 1) mX12_isLetter (agC Value.int (aldI 2 (getR 12 0 (lvR 0)) (subI (lvI 1) (ciI (iI 1)))) agN))) (ne0 (calX decI (ckS 1) mX12_isDigit (agC Value.int (aldI 2 (getR 12 0 (lvR 0)) (subI (lvI 1) (ciI (iI 1)))) agN))))) (putI 12 12 (lvR 0) (lvI 1))) (seqS (putI 12 6 (lvR 0) (ciI (iI 0))) (seqS (putL 12 7 (lvR 0) (clL (lI 0))) (seqS (putI 12 3 (lvR 0) (ciI (iI 3))) (seqS (putI 12 5 (lvR 0) (addI (lvI 1) (ciI (iI 1)))) (seqS (ifS (andX (notX (ne0 (lvI 2))) (notX (ne0 (lvI 3)))) (seqS (putI 12 6 (lvR 0) (aldI 2 (getR 12 0 (lvR 0)) (lvI 1))) retV)) (seqS (putI 12 3 (lvR 0) (iteX (ne0 (lvI 2)) (ciI (iI 1)) (ciI (iI 2)))) (seqS (lsI 4 (iteX (ne0 (lvI 2)) (ciI (iI 6)) (ciI (iI 4)))) (seqS (lsI 5 (ciI (iI 0))) (seqS (whileS lcX12_ahead_2 lbX12_ahead_2) (seqS (putI 12 5 (lvR 0) (lvI 1)) retV))))))))))))))))))))
theorem jX12_ahead : JS MX12_ahead 0 0 0 340 [] bX12_ahead :=
  (JS.seq (pc1 := 5) (JS.is (pc1 := 4) (k := 1) (JX.getI (pc1 := 1) (c := 12) (k := 5) (i := 26) (JX.al (k := 0) rfl dX12_ahead_0) cl12 (by decide) rfl fk12_26 dX12_ahead_1) rfl (show 1 < 6 by decide) dX12_ahead_4) (JS.seq (pc1 := 41) (JS.while (l := 41) (lb := 41) (pc1 := 35) (pc2 := 38) (pc3 := 41) (CJ.and_f (pc1 := 13) (CJ.lt_f (tgt := 41) (pc1 := 6) (pc2 := 10) (JX.il (k := 1) rfl dX12_ahead_5) (JX.getI (pc1 := 7) (c := 12) (k := 2) (i := 17) (JX.al (k := 0) rfl dX12_ahead_6) cl12 (by decide) rfl fk12_17 dX12_ahead_7) dX12_ahead_10 rfl) (CJ.or_f (l := 35) (pc1 := 24) (CJ.eq_t (tgt := 35) (pc1 := 19) (pc2 := 21) (JX.iald (pc1 := 17) (pc2 := 18) (JX.getR (pc1 := 14) (c := 12) (k := 0) (i := 9) (JX.al (k := 0) rfl dX12_ahead_13) cl12 (by decide) rfl fk12_9 dX12_ahead_14) (JX.il (k := 1) rfl dX12_ahead_17) dX12_ahead_18) (JX.bp (n := 32) kb32 dX12_ahead_19) dX12_ahead_21 rfl) (CJ.eq_f (tgt := 41) (pc1 := 30) (pc2 := 32) (JX.iald (pc1 := 28) (pc2 := 29) (JX.getR (pc1 := 25) (c := 12) (k := 0) (i := 9) (JX.al (k := 0) rfl dX12_ahead_24) cl12 (by decide) rfl fk12_9 dX12_ahead_25) (JX.il (k := 1) rfl dX12_ahead_28) dX12_ahead_29) (JX.bp (n := 10) kb10 dX12_ahead_30) dX12_ahead_32 rfl) (Or.inl rfl))) (JS.inc (n := 1) rfl (show 1 < 6 by decide) dX12_ahead_35) dX12_ahead_38 rfl (Or.inl rfl) (Or.inl rfl)) (JS.seq (pc1 := 46) (JS.pI (pc1 := 42) (pc2 := 43) (c := 12) (k := 4) (i := 23) (JX.al (k := 0) rfl dX12_ahead_41) (JX.il (k := 1) rfl dX12_ahead_42) cl12 (by decide) rfl fk12_23 (Or.inl rfl) dX12_ahead_43) (JS.seq (pc1 := 51) (JS.pI (pc1 := 47) (pc2 := 48) (c := 12) (k := 5) (i := 26) (JX.al (k := 0) rfl dX12_ahead_46) (JX.il (k := 1) rfl dX12_ahead_47) cl12 (by decide) rfl fk12_26 (Or.inl rfl) dX12_ahead_48) (JS.seq (pc1 := 56) (JS.pI (pc1 := 52) (pc2 := 53) (c := 12) (k := 3) (i := 20) (JX.al (k := 0) rfl dX12_ahead_51) (JX.ic (n := 0) rfl dX12_ahead_52) cl12 (by decide) rfl fk12_20 (Or.inl rfl) dX12_ahead_53) (JS.seq (pc1 := 61) (JS.pI (pc1 := 57) (pc2 := 58) (c := 12) (k := 12) (i := 48) (JX.al (k := 0) rfl dX12_ahead_56) (JX.ic (n := (-1)) rfl dX12_ahead_57) cl12 (by decide) rfl fk12_48 (Or.inl rfl) dX12_ahead_58) (JS.seq (pc1 := 70) (JS.iff (l := 70) (pc1 := 69) (CJ.ge_f (tgt := 70) (pc1 := 62) (pc2 := 66) (JX.il (k := 1) rfl dX12_ahead_61) (JX.getI (pc1 := 63) (c := 12) (k := 2) (i := 17) (JX.al (k := 0) rfl dX12_ahead_62) cl12 (by decide) rfl fk12_17 dX12_ahead_63) dX12_ahead_66 rfl) (JS.retV dX12_ahead_69) (Or.inl rfl)) (JS.seq (pc1 := 80) (JS.is (pc1 := 79) (k := 2) (JX.call (pc1 := 76) decI_ok (JA.i (JX.iald (pc1 := 74) (pc2 := 75) (JX.getR (pc1 := 71) (c := 12) (k := 0) (i := 9) (JX.al (k := 0) rfl dX12_ahead_70) cl12 (by decide) rfl fk12_9 dX12_ahead_71) (JX.il (k := 1) rfl dX12_ahead_74) dX12_ahead_75) JA.nil) aX12_isLetter (RunK.S (i := 239) (n := 1) (CN nX12_isLetter (by decide) (by decide)) gw1558 gw1559 dX12_ahead_76) (by decide)) rfl (show 2 < 6 by decide) dX12_ahead_79) (JS.seq (pc1 := 90) (JS.is (pc1 := 89) (k := 3) (JX.call (pc1 := 86) decI_ok (JA.i (JX.iald (pc1 := 84) (pc2 := 85) (JX.getR (pc1 := 81) (c := 12) (k := 0) (i := 9) (JX.al (k := 0) rfl dX12_ahead_80) cl12 (by decide) rfl fk12_9 dX12_ahead_81) (JX.il (k := 1) rfl dX12_ahead_84) dX12_ahead_85) JA.nil) aX12_isDigit (RunK.S (i := 243) (n := 1) (CN nX12_isDigit (by decide) (by decide)) gw1561 gw1562 dX12_ahead_86) (by decide)) rfl (show 3 < 6 by decide) dX12_ahead_89) (JS.seq (pc1 := 135) (JS.iff (l := 135) (pc1 := 130) (CJ.and_f (pc1 := 102) (CJ.and_f (pc1 := 98) (CJ.or_f (l := 98) (pc1 := 94) (CJ.ne0_t (tgt := 98) (pc1 := 91) (JX.il (k := 2) rfl dX12_ahead_90) dX12_ahead_91 rfl) (CJ.ne0_f (tgt := 135) (pc1 := 95) (JX.il (k := 3) rfl dX12_ahead_94) dX12_ahead_95 rfl) (Or.inl rfl)) (CJ.gt0_f (tgt := 135) (pc1 := 99) (JX.il (k := 1) rfl dX12_ahead_98) dX12_ahead_99 rfl)) (CJ.or_f (l := 130) (pc1 := 116) (CJ.ne0_t (tgt := 130) (pc1 := 113) (JX.call (pc1 := 110) decI_ok (JA.i (JX.iald (pc1 := 106) (pc2 := 109) (JX.getR (pc1 := 103) (c := 12) (k := 0) (i := 9) (JX.al (k := 0) rfl dX12_ahead_102) cl12 (by decide) rfl fk12_9 dX12_ahead_103) (JX.isub (pc1 := 107) (pc2 := 108) (JX.il (k := 1) rfl dX12_ahead_106) (JX.ic (n := 1) rfl dX12_ahead_107) dX12_ahead_108) dX12_ahead_109) JA.nil) aX12_isLetter (RunK.S (i := 239) (n := 1) (CN nX12_isLetter (by decide) (by decide)) gw1558 gw1559 dX12_ahead_110) (by decide)) dX12_ahead_113 rfl) (CJ.ne0_f (tgt := 135) (pc1 := 127) (JX.call (pc1 := 124) decI_ok (JA.i (JX.iald (pc1 := 120) (pc2 := 123) (JX.getR (pc1 := 117) (c := 12) (k := 0) (i := 9) (JX.al (k := 0) rfl dX12_ahead_116) cl12 (by decide) rfl fk12_9 dX12_ahead_117) (JX.isub (pc1 := 121) (pc2 := 122) (JX.il (k := 1) rfl dX12_ahead_120) (JX.ic (n := 1) rfl dX12_ahead_121) dX12_ahead_122) dX12_ahead_123) JA.nil) aX12_isDigit (RunK.S (i := 243) (n := 1) (CN nX12_isDigit (by decide) (by decide)) gw1561 gw1562 dX12_ahead_124) (by decide)) dX12_ahead_127 rfl) (Or.inl rfl))) (JS.pI (pc1 := 131) (pc2 := 132) (c := 12) (k := 12) (i := 48) (JX.al (k := 0) rfl dX12_ahead_130) (JX.il (k := 1) rfl dX12_ahead_131) cl12 (by decide) rfl fk12_48 (Or.inl rfl) dX12_ahead_132) (Or.inl rfl)) (JS.seq (pc1 := 140) (JS.pI (pc1 := 136) (pc2 := 137) (c := 12) (k := 6) (i := 29) (JX.al (k := 0) rfl dX12_ahead_135) (JX.ic (n := 0) rfl dX12_ahead_136) cl12 (by decide) rfl fk12_29 (Or.inl rfl) dX12_ahead_137) (JS.seq (pc1 := 145) (JS.pL (pc1 := 141) (pc2 := 142) (c := 12) (k := 7) (i := 32) (JX.al (k := 0) rfl dX12_ahead_140) (JX.lc (n := 0) (v := lI 0) rfl dX12_ahead_141) cl12 (by decide) rfl fk12_32 (Or.inl rfl) dX12_ahead_142) (JS.seq (pc1 := 150) (JS.pI (pc1 := 146) (pc2 := 147) (c := 12) (k := 3) (i := 20) (JX.al (k := 0) rfl dX12_ahead_145) (JX.ic (n := 3) rfl dX12_ahead_146) cl12 (by decide) rfl fk12_20 (Or.inl rfl) dX12_ahead_147) (JS.seq (pc1 := 157) (JS.pI (pc1 := 151) (pc2 := 154) (c := 12) (k := 5) (i := 26) (JX.al (k := 0) rfl dX12_ahead_150) (JX.iadd (pc1 := 152) (pc2 := 153) (JX.il (k := 1) rfl dX12_ahead_151) (JX.ic (n := 1) rfl dX12_ahead_152) dX12_ahead_153) cl12 (by decide) rfl fk12_26 (Or.inl rfl) dX12_ahead_154) (JS.seq (pc1 := 176) (JS.iff (l := 176) (pc1 := 165) (CJ.and_f (pc1 := 161) (CJ.not_f (CJ.ne0_t (tgt := 176) (pc1 := 158) (JX.il (k := 2) rfl dX12_ahead_157) dX12_ahead_158 rfl)) (CJ.not_f (CJ.ne0_t (tgt := 176) (pc1 := 162) (JX.il (k := 3) rfl dX12_ahead_161) dX12_ahead_162 rfl))) (JS.seq (pc1 := 175) (JS.pI (pc1 := 166) (pc2 := 172) (c := 12) (k := 6) (i := 29) (JX.al (k := 0) rfl dX12_ahead_165) (JX.iald (pc1 := 170) (pc2 := 171) (JX.getR (pc1 := 167) (c := 12) (k := 0) (i := 9) (JX.al (k := 0) rfl dX12_ahead_166) cl12 (by decide) rfl fk12_9 dX12_ahead_167) (JX.il (k := 1) rfl dX12_ahead_170) dX12_ahead_171) cl12 (by decide) rfl fk12_29 (Or.inl rfl) dX12_ahead_172) (JS.retV dX12_ahead_175)) (Or.inl rfl)) (JS.seq (pc1 := 189) (JS.pI (pc1 := 177) (pc2 := 186) (c := 12) (k := 3) (i := 20) (JX.al (k := 0) rfl dX12_ahead_176) (JX.ite (l := 185) (pc1 := 181) (pc2 := 182) (pc3 := 186) (lend := 186) (CJ.ne0_f (tgt := 185) (pc1 := 178) (JX.il (k := 2) rfl dX12_ahead_177) dX12_ahead_178 rfl) (JX.ic (n := 1) rfl dX12_ahead_181) dX12_ahead_182 rfl (JX.ic (n := 2) rfl dX12_ahead_185) (Or.inl rfl)) cl12 (by decide) rfl fk12_20 (Or.inl rfl) dX12_ahead_186) (JS.seq (pc1 := 201) (JS.is2 (pc1 := 199) (JX.ite (l := 198) (pc1 := 193) (pc2 := 195) (pc3 := 199) (lend := 199) (CJ.ne0_f (tgt := 198) (pc1 := 190) (JX.il (k := 2) rfl dX12_ahead_189) dX12_ahead_190 rfl) (JX.bp (n := 6) kb6 dX12_ahead_193) dX12_ahead_195 rfl (JX.ic (n := 4) rfl dX12_ahead_198) (Or.inl rfl)) (show 4 < 6 by decide) dX12_ahead_199) (JS.seq (pc1 := 204) (JS.is2 (pc1 := 202) (JX.ic (n := 0) rfl dX12_ahead_201) (show 5 < 6 by decide) dX12_ahead_202) (JS.seq (pc1 := 334) (JS.while (l := 334) (lb := 334) (pc1 := 243) (pc2 := 331) (pc3 := 334) (CJ.and_f (pc1 := 212) (CJ.lt_f (tgt := 334) (pc1 := 205) (pc2 := 209) (JX.il (k := 1) rfl dX12_ahead_204) (JX.getI (pc1 := 206) (c := 12) (k := 2) (i := 17) (JX.al (k := 0) rfl dX12_ahead_205) cl12 (by decide) rfl fk12_17 dX12_ahead_206) dX12_ahead_209 rfl) (CJ.ite_f (l := 231) (pc1 := 216) (pc2 := 228) (pc3 := 243) (lend := 243) (CJ.ne0_f (tgt := 231) (pc1 := 213) (JX.il (k := 2) rfl dX12_ahead_212) dX12_ahead_213 rfl) (CJ.ne0_f (tgt := 334) (pc1 := 225) (JX.call (pc1 := 222) decI_ok (JA.i (JX.iald (pc1 := 220) (pc2 := 221) (JX.getR (pc1 := 217) (c := 12) (k := 0) (i := 9) (JX.al (k := 0) rfl dX12_ahead_216) cl12 (by decide) rfl fk12_9 dX12_ahead_217) (JX.il (k := 1) rfl dX12_ahead_220) dX12_ahead_221) JA.nil) aX12_isLetter (RunK.S (i := 239) (n := 1) (CN nX12_isLetter (by decide) (by decide)) gw1558 gw1559 dX12_ahead_222) (by decide)) dX12_ahead_225 rfl) dX12_ahead_228 rfl (CJ.ne0_f (tgt := 334) (pc1 := 240) (JX.call (pc1 := 237) decI_ok (JA.i (JX.iald (pc1 := 235) (pc2 := 236) (JX.getR (pc1 := 232) (c := 12) (k := 0) (i := 9) (JX.al (k := 0) rfl dX12_ahead_231) cl12 (by decide) rfl fk12_9 dX12_ahead_232) (JX.il (k := 1) rfl dX12_ahead_235) dX12_ahead_236) JA.nil) aX12_isDigit (RunK.S (i := 243) (n := 1) (CN nX12_isDigit (by decide) (by decide)) gw1561 gw1562 dX12_ahead_237) (by decide)) dX12_ahead_240 rfl) (Or.inl rfl))) (JS.seq (pc1 := 263) (JS.iff (l := 263) (pc1 := 258) (CJ.and_f (pc1 := 250) (CJ.eq_f (tgt := 263) (pc1 := 245) (pc2 := 247) (JX.il2 dX12_ahead_243) (JX.il2 dX12_ahead_245) dX12_ahead_247 rfl) (CJ.eq_f (tgt := 263) (pc1 := 254) (pc2 := 255) (JX.getI (pc1 := 251) (c := 12) (k := 12) (i := 48) (JX.al (k := 0) rfl dX12_ahead_250) cl12 (by decide) rfl fk12_48 dX12_ahead_251) (JX.ic (n := (-1)) rfl dX12_ahead_254) dX12_ahead_255 rfl)) (JS.pI (pc1 := 259) (pc2 := 260) (c := 12) (k := 12) (i := 48) (JX.al (k := 0) rfl dX12_ahead_258) (JX.il (k := 1) rfl dX12_ahead_259) cl12 (by decide) rfl fk12_48 (Or.inl rfl) dX12_ahead_260) (Or.inl rfl)) (JS.seq (pc1 := 293) (JS.iff (l := 293) (pc1 := 274) (CJ.and_f (pc1 := 270) (CJ.lt_f (tgt := 293) (pc1 := 265) (pc2 := 267) (JX.il2 dX12_ahead_263) (JX.il2 dX12_ahead_265) dX12_ahead_267 rfl) (CJ.ne0_f (tgt := 293) (pc1 := 271) (JX.il (k := 2) rfl dX12_ahead_270) dX12_ahead_271 rfl)) (JS.pL (pc1 := 275) (pc2 := 290) (c := 12) (k := 7) (i := 32) (JX.al (k := 0) rfl dX12_ahead_274) (JX.lor (pc1 := 282) (pc2 := 289) (JX.lshl (pc1 := 279) (pc2 := 281) (JX.getL (pc1 := 276) (c := 12) (k := 7) (i := 32) (JX.al (k := 0) rfl dX12_ahead_275) cl12 (by decide) rfl fk12_32 dX12_ahead_276) (JX.bp (n := 8) kb8 dX12_ahead_279) dX12_ahead_281) (JX.i2l (pc1 := 288) (JX.iald (pc1 := 286) (pc2 := 287) (JX.getR (pc1 := 283) (c := 12) (k := 0) (i := 9) (JX.al (k := 0) rfl dX12_ahead_282) cl12 (by decide) rfl fk12_9 dX12_ahead_283) (JX.il (k := 1) rfl dX12_ahead_286) dX12_ahead_287) dX12_ahead_288) dX12_ahead_289) cl12 (by decide) rfl fk12_32 (Or.inl rfl) dX12_ahead_290) (Or.inl rfl)) (JS.seq (pc1 := 325) (JS.iff (l := 325) (pc1 := 304) (CJ.and_f (pc1 := 300) (CJ.lt_f (tgt := 325) (pc1 := 295) (pc2 := 297) (JX.il2 dX12_ahead_293) (JX.il2 dX12_ahead_295) dX12_ahead_297 rfl) (CJ.ne0_f (tgt := 325) (pc1 := 301) (JX.il (k := 3) rfl dX12_ahead_300) dX12_ahead_301 rfl)) (JS.pI (pc1 := 305) (pc2 := 322) (c := 12) (k := 6) (i := 29) (JX.al (k := 0) rfl dX12_ahead_304) (JX.isub (pc1 := 319) (pc2 := 321) (JX.iadd (pc1 := 312) (pc2 := 318) (JX.imul (pc1 := 307) (pc2 := 311) (JX.bp (n := 10) kb10 dX12_ahead_305) (JX.getI (pc1 := 308) (c := 12) (k := 6) (i := 29) (JX.al (k := 0) rfl dX12_ahead_307) cl12 (by decide) rfl fk12_29 dX12_ahead_308) dX12_ahead_311) (JX.iald (pc1 := 316) (pc2 := 317) (JX.getR (pc1 := 313) (c := 12) (k := 0) (i := 9) (JX.al (k := 0) rfl dX12_ahead_312) cl12 (by decide) rfl fk12_9 dX12_ahead_313) (JX.il (k := 1) rfl dX12_ahead_316) dX12_ahead_317) dX12_ahead_318) (JX.bp (n := 48) kb48 dX12_ahead_319) dX12_ahead_321) cl12 (by decide) rfl fk12_29 (Or.inl rfl) dX12_ahead_322) (Or.inl rfl)) (JS.seq (pc1 := 328) (JS.inc (n := 1) rfl (show 5 < 6 by decide) dX12_ahead_325) (JS.inc (n := 1) rfl (show 1 < 6 by decide) dX12_ahead_328))))) dX12_ahead_331 rfl (Or.inl rfl) (Or.inl rfl)) (JS.seq (pc1 := 339) (JS.pI (pc1 := 335) (pc2 := 336) (c := 12) (k := 5) (i := 26) (JX.al (k := 0) rfl dX12_ahead_334) (JX.il (k := 1) rfl dX12_ahead_335) cl12 (by decide) rfl fk12_26 (Or.inl rfl) dX12_ahead_336) (JS.retV dX12_ahead_339)))))))))))))))))))))
def mX12_ahead : MS := runM 6 none bX12_ahead
theorem aX12_ahead : MA yX12_ahead cX12_ahead 6 none 2 mX12_ahead := MA.of (plainFor_of_name (by decide)) jX12_ahead
theorem eX12_ahead (a0 : Nat) (h : AH) : mX12_ahead [.ref a0] h = (bX12_ahead [.val (.ref a0), .unset, .unset, .unset, .unset, .unset] h).bind (finM none) := rfl
