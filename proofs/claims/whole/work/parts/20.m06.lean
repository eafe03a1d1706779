/-! ===== by program: mk20.py: methods ===== -/
/-! PieceStore.gain -/
theorem dX11_gain_0 : decode cX11_gain 0 = .ok (.aload_n 0, 1) := by decide +kernel
theorem dX11_gain_1 : decode cX11_gain 1 = .ok (.getfield 54, 3) := by decide +kernel
theorem dX11_gain_4 : decode cX11_gain 4 = .ok (.ifCond .eq 12, 3) := by decide +kernel
theorem dX11_gain_7 : decode cX11_gain 7 = .ok (.iload_n 1, 1) := by decide +kernel
theorem dX11_gain_8 : decode cX11_gain 8 = .ok (.ifCond .lt 8, 3) := by decide +kernel
theorem dX11_gain_11 : decode cX11_gain 11 = .ok (.iload_n 1, 1) := by decide +kernel
theorem dX11_gain_12 : decode cX11_gain 12 = .ok (.iconst 1, 1) := by decide +kernel
theorem dX11_gain_13 : decode cX11_gain 13 = .ok (.if_icmp .le 5, 3) := by decide +kernel
theorem dX11_gain_16 : decode cX11_gain 16 = .ok (.iconst (-1), 1) := by decide +kernel
theorem dX11_gain_17 : decode cX11_gain 17 = .ok (.ireturn, 1) := by decide +kernel
theorem dX11_gain_18 : decode cX11_gain 18 = .ok (.aload_n 0, 1) := by decide +kernel
theorem dX11_gain_19 : decode cX11_gain 19 = .ok (.getfield 29, 3) := by decide +kernel
theorem dX11_gain_22 : decode cX11_gain 22 = .ok (.aload_n 0, 1) := by decide +kernel
theorem dX11_gain_23 : decode cX11_gain 23 = .ok (.getfield 29, 3) := by decide +kernel
theorem dX11_gain_26 : decode cX11_gain 26 = .ok (.getfield 253, 3) := by decide +kernel
theorem dX11_gain_29 : decode cX11_gain 29 = .ok (.invokevirtual 256, 3) := by decide +kernel
theorem dX11_gain_32 : decode cX11_gain 32 = .ok (.pop, 1) := by decide +kernel
theorem dX11_gain_33 : decode cX11_gain 33 = .ok (.iload_n 1, 1) := by decide +kernel
theorem dX11_gain_34 : decode cX11_gain 34 = .ok (.ifCond .ne 31, 3) := by decide +kernel
theorem dX11_gain_37 : decode cX11_gain 37 = .ok (.aload_n 0, 1) := by decide +kernel
theorem dX11_gain_38 : decode cX11_gain 38 = .ok (.getfield 29, 3) := by decide +kernel
theorem dX11_gain_41 : decode cX11_gain 41 = .ok (.getfield 112, 3) := by decide +kernel
theorem dX11_gain_44 : decode cX11_gain 44 = .ok (.getfield 127, 3) := by decide +kernel
theorem dX11_gain_47 : decode cX11_gain 47 = .ok (.invokevirtual 130, 3) := by decide +kernel
theorem dX11_gain_50 : decode cX11_gain 50 = .ok (.aload_n 0, 1) := by decide +kernel
theorem dX11_gain_51 : decode cX11_gain 51 = .ok (.getfield 29, 3) := by decide +kernel
theorem dX11_gain_54 : decode cX11_gain 54 = .ok (.getfield 253, 3) := by decide +kernel
theorem dX11_gain_57 : decode cX11_gain 57 = .ok (.getfield 127, 3) := by decide +kernel
theorem dX11_gain_60 : decode cX11_gain 60 = .ok (.invokevirtual 130, 3) := by decide +kernel
theorem dX11_gain_63 : decode cX11_gain 63 = .ok (.isub, 1) := by decide +kernel
theorem dX11_gain_64 : decode cX11_gain 64 = .ok (.ireturn, 1) := by decide +kernel
theorem dX11_gain_65 : decode cX11_gain 65 = .ok (.iconst 0, 1) := by decide +kernel
theorem dX11_gain_66 : decode cX11_gain 66 = .ok (.aload_n 0, 1) := by decide +kernel
theorem dX11_gain_67 : decode cX11_gain 67 = .ok (.getfield 29, 3) := by decide +kernel
theorem dX11_gain_70 : decode cX11_gain 70 = .ok (.getfield 112, 3) := by decide +kernel
theorem dX11_gain_73 : decode cX11_gain 73 = .ok (.getfield 124, 3) := by decide +kernel
theorem dX11_gain_76 : decode cX11_gain 76 = .ok (.invokevirtual 69, 3) := by decide +kernel
theorem dX11_gain_79 : decode cX11_gain 79 = .ok (.aload_n 0, 1) := by decide +kernel
theorem dX11_gain_80 : decode cX11_gain 80 = .ok (.getfield 29, 3) := by decide +kernel
theorem dX11_gain_83 : decode cX11_gain 83 = .ok (.getfield 253, 3) := by decide +kernel
theorem dX11_gain_86 : decode cX11_gain 86 = .ok (.getfield 124, 3) := by decide +kernel
theorem dX11_gain_89 : decode cX11_gain 89 = .ok (.invokevirtual 69, 3) := by decide +kernel
theorem dX11_gain_92 : decode cX11_gain 92 = .ok (.isub, 1) := by decide +kernel
theorem dX11_gain_93 : decode cX11_gain 93 = .ok (.invokestatic 260, 3) := by decide +kernel
theorem dX11_gain_96 : decode cX11_gain 96 = .ok (.ireturn, 1) := by decide +kernel
abbrev MX11_gain : MI := (RX11, cX11_gain, 2, 7, false)
def bX11_gain : St := (seqS (ifS (orX (orX (notX (ne0 (getI 11 7 (lvR 0)))) (lt0 (lvI 1))) (gtI (lvI 1) (ciI (iI 1)))) (retI (ciI (iI (-1))))) (seqS (exS (calX decI (ckV 10 1) mX10_cleanInto (agC va_rf (getR 11 3 (lvR 0)) (agC va_rf (getR 10 11 (getR 11 3 (lvR 0))) agN)))) (seqS (ifS (eq0 (lvI 1)) (retI (subI (calX decI (ckV 5 0) mX5_total (agC va_rf (getR 9 4 (getR 10 10 (getR 11 3 (lvR 0)))) agN)) (calX decI (ckV 5 0) mX5_total (agC va_rf (getR 9 4 (getR 10 11 (getR 11 3 (lvR 0)))) agN))))) (retI (calX decI (ckS 2) mJ9_max_7cf53 (agC Value.int (ciI (iI 0)) (agC Value.int (subI (calX decI (ckV 5 0) mX5_size (agC va_rf (getR 9 5 (getR 10 10 (getR 11 3 (lvR 0)))) agN)) (calX decI (ckV 5 0) mX5_size (agC va_rf (getR 9 5 (getR 10 11 (getR 11 3 (lvR 0)))) agN))) agN)))))))
theorem jX11_gain : JS MX11_gain 0 0 0 97 [] bX11_gain :=
  (JS.seq (pc1 := 18) (JS.iff (l := 18) (pc1 := 16) (CJ.or_f (l := 16) (pc1 := 11) (CJ.or_t (pc1 := 7) (CJ.not_t (CJ.ne0_f (tgt := 16) (pc1 := 4) (JX.getI (pc1 := 1) (c := 11) (k := 7) (i := 54) (JX.al (k := 0) rfl dX11_gain_0) cl11 (by decide) rfl fk11_54 dX11_gain_1) dX11_gain_4 rfl)) (CJ.lt0_t (tgt := 16) (pc1 := 8) (JX.il (k := 1) rfl dX11_gain_7) dX11_gain_8 rfl)) (CJ.gt_f (tgt := 18) (pc1 := 12) (pc2 := 13) (JX.il (k := 1) rfl dX11_gain_11) (JX.ic (n := 1) rfl dX11_gain_12) dX11_gain_13 rfl) (Or.inl rfl)) (JS.retI (pc1 := 17) (JX.ic (n := (-1)) rfl dX11_gain_16) dX11_gain_17) (Or.inl rfl)) (JS.seq (pc1 := 33) (JS.pop (pc1 := 32) (JX.call (pc1 := 29) decI_ok (JA.r (JX.getR (pc1 := 19) (c := 11) (k := 3) (i := 29) (JX.al (k := 0) rfl dX11_gain_18) cl11 (by decide) rfl fk11_29 dX11_gain_19) (JA.r (JX.getR (pc1 := 26) (c := 10) (k := 11) (i := 253) (JX.getR (pc1 := 23) (c := 11) (k := 3) (i := 29) (JX.al (k := 0) rfl dX11_gain_22) cl11 (by decide) rfl fk11_29 dX11_gain_23) cl10 (by decide) rfl fk11_253 dX11_gain_26) JA.nil)) aX10_cleanInto (RunK.V (i := 256) (c := 10) (n := 1) cl10 rfl (CN nX10_cleanInto (by decide) (by decide)) gw1047 gw1048 gw1049 dX11_gain_29) (by decide)) (fun _ => rfl) dX11_gain_32) (JS.seq (pc1 := 65) (JS.iff (l := 65) (pc1 := 37) (CJ.eq0_f (tgt := 65) (pc1 := 34) (JX.il (k := 1) rfl dX11_gain_33) dX11_gain_34 rfl) (JS.retI (pc1 := 64) (JX.isub (pc1 := 50) (pc2 := 63) (JX.call (pc1 := 47) decI_ok (JA.r (JX.getR (pc1 := 44) (c := 9) (k := 4) (i := 127) (JX.getR (pc1 := 41) (c := 10) (k := 10) (i := 112) (JX.getR (pc1 := 38) (c := 11) (k := 3) (i := 29) (JX.al (k := 0) rfl dX11_gain_37) cl11 (by decide) rfl fk11_29 dX11_gain_38) cl10 (by decide) rfl fk11_112 dX11_gain_41) cl9 (by decide) rfl fk11_127 dX11_gain_44) JA.nil) aX5_total (RunK.V (i := 130) (c := 5) (n := 0) cl5 rfl (CN nX5_total (by decide) (by decide)) gw802 gw799 gw800 dX11_gain_47) (by decide)) (JX.call (pc1 := 60) decI_ok (JA.r (JX.getR (pc1 := 57) (c := 9) (k := 4) (i := 127) (JX.getR (pc1 := 54) (c := 10) (k := 11) (i := 253) (JX.getR (pc1 := 51) (c := 11) (k := 3) (i := 29) (JX.al (k := 0) rfl dX11_gain_50) cl11 (by decide) rfl fk11_29 dX11_gain_51) cl10 (by decide) rfl fk11_253 dX11_gain_54) cl9 (by decide) rfl fk11_127 dX11_gain_57) JA.nil) aX5_total (RunK.V (i := 130) (c := 5) (n := 0) cl5 rfl (CN nX5_total (by decide) (by decide)) gw802 gw799 gw800 dX11_gain_60) (by decide)) dX11_gain_63) dX11_gain_64) (Or.inl rfl)) (JS.retI (pc1 := 96) (JX.call (pc1 := 93) decI_ok (JA.i (JX.ic (n := 0) rfl dX11_gain_65) (JA.i (JX.isub (pc1 := 79) (pc2 := 92) (JX.call (pc1 := 76) decI_ok (JA.r (JX.getR (pc1 := 73) (c := 9) (k := 5) (i := 124) (JX.getR (pc1 := 70) (c := 10) (k := 10) (i := 112) (JX.getR (pc1 := 67) (c := 11) (k := 3) (i := 29) (JX.al (k := 0) rfl dX11_gain_66) cl11 (by decide) rfl fk11_29 dX11_gain_67) cl10 (by decide) rfl fk11_112 dX11_gain_70) cl9 (by decide) rfl fk11_124 dX11_gain_73) JA.nil) aX5_size (RunK.V (i := 69) (c := 5) (n := 0) cl5 rfl (CN nX5_size (by decide) (by decide)) gw586 gw587 gw588 dX11_gain_76) (by decide)) (JX.call (pc1 := 89) decI_ok (JA.r (JX.getR (pc1 := 86) (c := 9) (k := 5) (i := 124) (JX.getR (pc1 := 83) (c := 10) (k := 11) (i := 253) (JX.getR (pc1 := 80) (c := 11) (k := 3) (i := 29) (JX.al (k := 0) rfl dX11_gain_79) cl11 (by decide) rfl fk11_29 dX11_gain_80) cl10 (by decide) rfl fk11_253 dX11_gain_83) cl9 (by decide) rfl fk11_124 dX11_gain_86) JA.nil) aX5_size (RunK.V (i := 69) (c := 5) (n := 0) cl5 rfl (CN nX5_size (by decide) (by decide)) gw586 gw587 gw588 dX11_gain_89) (by decide)) dX11_gain_92) JA.nil)) aJ9_max_7cf53 (RunK.S (i := 260) (n := 2) (CN nJ9_max_7cf53 (by decide) (by decide)) gw1082 gw1083 dX11_gain_93) (by decide)) dX11_gain_96))))
def mX11_gain : MS := runM 2 (some (.int)) bX11_gain
theorem aX11_gain : MA yX11_gain cX11_gain 2 (some (.int)) 7 mX11_gain := MA.of (plainFor_of_name (by decide)) jX11_gain
theorem eX11_gain (a0 : Nat) (a1 : Int32) (h : AH) : mX11_gain [.ref a0, .int a1] h = (bX11_gain [.val (.ref a0), .val (.int a1)] h).bind (finM (some (.int))) := rfl
/-! Vault.countBoxesOf -/
theorem dX10_countBoxesOf_0 : decode cX10_countBoxesOf 0 = .ok (.aload_n 0, 1) := by decide +kernel
theorem dX10_countBoxesOf_1 : decode cX10_countBoxesOf 1 = .ok (.getfield 55, 3) := by decide +kernel
theorem dX10_countBoxesOf_4 : decode cX10_countBoxesOf 4 = .ok (.aload_n 0, 1) := by decide +kernel
theorem dX10_countBoxesOf_5 : decode cX10_countBoxesOf 5 = .ok (.getfield 64, 3) := by decide +kernel
theorem dX10_countBoxesOf_8 : decode cX10_countBoxesOf 8 = .ok (.getfield 219, 3) := by decide +kernel
theorem dX10_countBoxesOf_11 : decode cX10_countBoxesOf 11 = .ok (.invokevirtual 157, 3) := by decide +kernel
theorem dX10_countBoxesOf_14 : decode cX10_countBoxesOf 14 = .ok (.iconst 0, 1) := by decide +kernel
theorem dX10_countBoxesOf_15 : decode cX10_countBoxesOf 15 = .ok (.invokevirtual 107, 3) := by decide +kernel
theorem dX10_countBoxesOf_18 : decode cX10_countBoxesOf 18 = .ok (.iconst 0, 1) := by decide +kernel
theorem dX10_countBoxesOf_19 : decode cX10_countBoxesOf 19 = .ok (.istore_n 2, 1) := by decide +kernel
theorem dX10_countBoxesOf_20 : decode cX10_countBoxesOf 20 = .ok (.iload_n 2, 1) := by decide +kernel
theorem dX10_countBoxesOf_21 : decode cX10_countBoxesOf 21 = .ok (.aload_n 0, 1) := by decide +kernel
theorem dX10_countBoxesOf_22 : decode cX10_countBoxesOf 22 = .ok (.getfield 64, 3) := by decide +kernel
theorem dX10_countBoxesOf_25 : decode cX10_countBoxesOf 25 = .ok (.getfield 111, 3) := by decide +kernel
theorem dX10_countBoxesOf_28 : decode cX10_countBoxesOf 28 = .ok (.iload_n 1, 1) := by decide +kernel
theorem dX10_countBoxesOf_29 : decode cX10_countBoxesOf 29 = .ok (.invokevirtual 114, 3) := by decide +kernel
theorem dX10_countBoxesOf_32 : decode cX10_countBoxesOf 32 = .ok (.if_icmp .ge 33, 3) := by decide +kernel
theorem dX10_countBoxesOf_35 : decode cX10_countBoxesOf 35 = .ok (.aload_n 0, 1) := by decide +kernel
theorem dX10_countBoxesOf_36 : decode cX10_countBoxesOf 36 = .ok (.getfield 55, 3) := by decide +kernel
theorem dX10_countBoxesOf_39 : decode cX10_countBoxesOf 39 = .ok (.aload_n 0, 1) := by decide +kernel
theorem dX10_countBoxesOf_40 : decode cX10_countBoxesOf 40 = .ok (.getfield 64, 3) := by decide +kernel
theorem dX10_countBoxesOf_43 : decode cX10_countBoxesOf 43 = .ok (.getfield 216, 3) := by decide +kernel
theorem dX10_countBoxesOf_46 : decode cX10_countBoxesOf 46 = .ok (.aload_n 0, 1) := by decide +kernel
theorem dX10_countBoxesOf_47 : decode cX10_countBoxesOf 47 = .ok (.iload_n 1, 1) := by decide +kernel
theorem dX10_countBoxesOf_48 : decode cX10_countBoxesOf 48 = .ok (.iload_n 2, 1) := by decide +kernel
theorem dX10_countBoxesOf_49 : decode cX10_countBoxesOf 49 = .ok (.invokevirtual 133, 3) := by decide +kernel
theorem dX10_countBoxesOf_52 : decode cX10_countBoxesOf 52 = .ok (.invokevirtual 114, 3) := by decide +kernel
theorem dX10_countBoxesOf_55 : decode cX10_countBoxesOf 55 = .ok (.iconst 1, 1) := by decide +kernel
theorem dX10_countBoxesOf_56 : decode cX10_countBoxesOf 56 = .ok (.invokevirtual 168, 3) := by decide +kernel
theorem dX10_countBoxesOf_59 : decode cX10_countBoxesOf 59 = .ok (.iinc 2 1, 3) := by decide +kernel
theorem dX10_countBoxesOf_62 : decode cX10_countBoxesOf 62 = .ok (.goto (-42), 3) := by decide +kernel
theorem dX10_countBoxesOf_65 : decode cX10_countBoxesOf 65 = .ok (.aload_n 0, 1) := by decide +kernel
theorem dX10_countBoxesOf_66 : decode cX10_countBoxesOf 66 = .ok (.getfield 55, 3) := by decide +kernel
theorem dX10_countBoxesOf_69 : decode cX10_countBoxesOf 69 = .ok (.invokevirtual 198, 3) := by decide +kernel
theorem dX10_countBoxesOf_72 : decode cX10_countBoxesOf 72 = .ok (.ireturn, 1) := by decide +kernel
abbrev MX10_countBoxesOf : MI := (RX10, cX10_countBoxesOf, 3, 4, false)
def lcX10_countBoxesOf_1 : Ex Bool := (ltI (lvI 2) (calX decI (ckV 5 1) mX5_at (agC va_rf (getR 9 9 (getR 10 10 (lvR 0))) (agC Value.int (lvI 1) agN))))
def lbX10_countBoxesOf_1 : St := (forB (calS (ckV 5 2) mX5_put (agC va_rf (getR 10 8 (lvR 0)) (agC Value.int (calX decI (ckV 5 1) mX5_at (agC va_rf (getR 9 2 (getR 10 10 (lvR 0))) (agC Value.int (calX decI (ckV 10 2) mX10_spotOf (agC va_rf (lvR 0) (agC Value.int (lvI 1) (agC Value.int (lvI 2) agN)))) agN))) (agC Value.int (ciI (iI 1)) agN)))) (incI 2 (iI 1)))
def bX10_countBoxesOf : St := (seqS (calS (ckV 5 2) mX5_fill (agC va_rf (getR 10 8 (lvR 0)) (agC Value.int (calX decI (ckV 5 0) mX5_size (agC va_rf (getR 9 5 (getR 10 10 (lvR 0))) agN)) (agC Value.int (ciI (iI 0)) agN)))) (seqS (scS 2 (seqS (lsI 2 (ciI (iI 0))) (whileS lcX10_countBoxesOf_1 lbX10_countBoxesOf_1))) (retI (calX decI (ckV 5 0) mX5_total (agC va_rf (getR 10 8 (lvR 0)) agN)))))
theorem jX10_countBoxesOf : JS MX10_countBoxesOf 0 0 0 73 [] bX10_countBoxesOf :=
  (JS.seq (pc1 := 18) (JS.call (pc1 := 15) (JA.r (JX.getR (pc1 := 1) (c := 10) (k := 8) (i := 55) (JX.al (k := 0) rfl dX10_countBoxesOf_0) cl10 (by decide) rfl fk10_55 dX10_countBoxesOf_1) (JA.i (JX.call (pc1 := 11) decI_ok (JA.r (JX.getR (pc1 := 8) (c := 9) (k := 5) (i := 219) (JX.getR (pc1 := 5) (c := 10) (k := 10) (i := 64) (JX.al (k := 0) rfl dX10_countBoxesOf_4) cl10 (by decide) rfl fk10_64 dX10_countBoxesOf_5) cl9 (by decide) rfl fk10_219 dX10_countBoxesOf_8) JA.nil) aX5_size (RunK.V (i := 157) (c := 5) (n := 0) cl5 rfl (CN nX5_size (by decide) (by decide)) gw788 gw587 gw588 dX10_countBoxesOf_11) (by decide)) (JA.i (JX.ic (n := 0) rfl dX10_countBoxesOf_14) JA.nil))) aX5_fill (RunK.V (i := 107) (c := 5) (n := 2) cl5 rfl (CN nX5_fill (by decide) (by decide)) gw431 gw200 gw201 dX10_countBoxesOf_15)) (JS.seq (pc1 := 65) (JS.sc (JS.seq (pc1 := 20) (JS.is (pc1 := 19) (k := 2) (JX.ic (n := 0) rfl dX10_countBoxesOf_18) rfl (show 2 < 3 by decide) dX10_countBoxesOf_19) (JS.while (l := 65) (lb := 65) (pc1 := 35) (pc2 := 62) (pc3 := 65) (CJ.lt_f (tgt := 65) (pc1 := 21) (pc2 := 32) (JX.il (k := 2) rfl dX10_countBoxesOf_20) (JX.call (pc1 := 29) decI_ok (JA.r (JX.getR (pc1 := 25) (c := 9) (k := 9) (i := 111) (JX.getR (pc1 := 22) (c := 10) (k := 10) (i := 64) (JX.al (k := 0) rfl dX10_countBoxesOf_21) cl10 (by decide) rfl fk10_64 dX10_countBoxesOf_22) cl9 (by decide) rfl fk10_111 dX10_countBoxesOf_25) (JA.i (JX.il (k := 1) rfl dX10_countBoxesOf_28) JA.nil)) aX5_at (RunK.V (i := 114) (c := 5) (n := 1) cl5 rfl (CN nX5_at (by decide) (by decide)) gw774 gw595 gw596 dX10_countBoxesOf_29) (by decide)) dX10_countBoxesOf_32 rfl) (JS.forb (pc1 := 59) (JS.call (pc1 := 56) (JA.r (JX.getR (pc1 := 36) (c := 10) (k := 8) (i := 55) (JX.al (k := 0) rfl dX10_countBoxesOf_35) cl10 (by decide) rfl fk10_55 dX10_countBoxesOf_36) (JA.i (JX.call (pc1 := 52) decI_ok (JA.r (JX.getR (pc1 := 43) (c := 9) (k := 2) (i := 216) (JX.getR (pc1 := 40) (c := 10) (k := 10) (i := 64) (JX.al (k := 0) rfl dX10_countBoxesOf_39) cl10 (by decide) rfl fk10_64 dX10_countBoxesOf_40) cl9 (by decide) rfl fk10_216 dX10_countBoxesOf_43) (JA.i (JX.call (pc1 := 49) decI_ok (JA.r (JX.al (k := 0) rfl dX10_countBoxesOf_46) (JA.i (JX.il (k := 1) rfl dX10_countBoxesOf_47) (JA.i (JX.il (k := 2) rfl dX10_countBoxesOf_48) JA.nil))) aX10_spotOf (RunK.V (i := 133) (c := 10) (n := 2) cl10 rfl (CN nX10_spotOf (by decide) (by decide)) gw793 gw794 gw795 dX10_countBoxesOf_49) (by decide)) JA.nil)) aX5_at (RunK.V (i := 114) (c := 5) (n := 1) cl5 rfl (CN nX5_at (by decide) (by decide)) gw774 gw595 gw596 dX10_countBoxesOf_52) (by decide)) (JA.i (JX.ic (n := 1) rfl dX10_countBoxesOf_55) JA.nil))) aX5_put (RunK.V (i := 168) (c := 5) (n := 2) cl5 rfl (CN nX5_put (by decide) (by decide)) gw797 gw599 gw600 dX10_countBoxesOf_56)) (JS.inc (n := 1) rfl (show 2 < 3 by decide) dX10_countBoxesOf_59)) dX10_countBoxesOf_62 rfl (Or.inl rfl) (Or.inl rfl)))) (JS.retI (pc1 := 72) (JX.call (pc1 := 69) decI_ok (JA.r (JX.getR (pc1 := 66) (c := 10) (k := 8) (i := 55) (JX.al (k := 0) rfl dX10_countBoxesOf_65) cl10 (by decide) rfl fk10_55 dX10_countBoxesOf_66) JA.nil) aX5_total (RunK.V (i := 198) (c := 5) (n := 0) cl5 rfl (CN nX5_total (by decide) (by decide)) gw798 gw799 gw800 dX10_countBoxesOf_69) (by decide)) dX10_countBoxesOf_72)))
def mX10_countBoxesOf : MS := runM 3 (some (.int)) bX10_countBoxesOf
theorem aX10_countBoxesOf : MA yX10_countBoxesOf cX10_countBoxesOf 3 (some (.int)) 4 mX10_countBoxesOf := MA.of (plainFor_of_name (by decide)) jX10_countBoxesOf
theorem eX10_countBoxesOf (a0 : Nat) (a1 : Int32) (h : AH) : mX10_countBoxesOf [.ref a0, .int a1] h = (bX10_countBoxesOf [.val (.ref a0), .val (.int a1), .unset] h).bind (finM (some (.int))) := rfl
/-! PieceStore.odds -/
theorem dX11_odds_0 : decode cX11_odds 0 = .ok (.aload_n 0, 1) := by decide +kernel
theorem dX11_odds_1 : decode cX11_odds 1 = .ok (.getfield 29, 3) := by decide +kernel
theorem dX11_odds_4 : decode cX11_odds 4 = .ok (.getfield 112, 3) := by decide +kernel
theorem dX11_odds_7 : decode cX11_odds 7 = .ok (.getfield 124, 3) := by decide +kernel
theorem dX11_odds_10 : decode cX11_odds 10 = .ok (.invokevirtual 69, 3) := by decide +kernel
theorem dX11_odds_13 : decode cX11_odds 13 = .ok (.istore_n 2, 1) := by decide +kernel
theorem dX11_odds_14 : decode cX11_odds 14 = .ok (.iload_n 2, 1) := by decide +kernel
theorem dX11_odds_15 : decode cX11_odds 15 = .ok (.ifCond .eq 11, 3) := by decide +kernel
theorem dX11_odds_18 : decode cX11_odds 18 = .ok (.aload_n 0, 1) := by decide +kernel
theorem dX11_odds_19 : decode cX11_odds 19 = .ok (.iconst 1, 1) := by decide +kernel
theorem dX11_odds_20 : decode cX11_odds 20 = .ok (.invokevirtual 243, 3) := by decide +kernel
theorem dX11_odds_23 : decode cX11_odds 23 = .ok (.ifCond .ne 5, 3) := by decide +kernel
theorem dX11_odds_26 : decode cX11_odds 26 = .ok (.iconst (-1), 1) := by decide +kernel
theorem dX11_odds_27 : decode cX11_odds 27 = .ok (.ireturn, 1) := by decide +kernel
theorem dX11_odds_28 : decode cX11_odds 28 = .ok (.iload_n 1, 1) := by decide +kernel
theorem dX11_odds_29 : decode cX11_odds 29 = .ok (.iconst (-1), 1) := by decide +kernel
theorem dX11_odds_30 : decode cX11_odds 30 = .ok (.if_icmp .ne 8, 3) := by decide +kernel
theorem dX11_odds_33 : decode cX11_odds 33 = .ok (.bipush 100, 2) := by decide +kernel
theorem dX11_odds_35 : decode cX11_odds 35 = .ok (.iload_n 2, 1) := by decide +kernel
theorem dX11_odds_36 : decode cX11_odds 36 = .ok (.imul, 1) := by decide +kernel
theorem dX11_odds_37 : decode cX11_odds 37 = .ok (.ireturn, 1) := by decide +kernel
theorem dX11_odds_38 : decode cX11_odds 38 = .ok (.aload_n 0, 1) := by decide +kernel
theorem dX11_odds_39 : decode cX11_odds 39 = .ok (.getfield 29, 3) := by decide +kernel
theorem dX11_odds_42 : decode cX11_odds 42 = .ok (.iload_n 1, 1) := by decide +kernel
theorem dX11_odds_43 : decode cX11_odds 43 = .ok (.invokevirtual 154, 3) := by decide +kernel
theorem dX11_odds_46 : decode cX11_odds 46 = .ok (.ifCond .ne 5, 3) := by decide +kernel
theorem dX11_odds_49 : decode cX11_odds 49 = .ok (.iconst (-1), 1) := by decide +kernel
theorem dX11_odds_50 : decode cX11_odds 50 = .ok (.ireturn, 1) := by decide +kernel
theorem dX11_odds_51 : decode cX11_odds 51 = .ok (.aload_n 0, 1) := by decide +kernel
theorem dX11_odds_52 : decode cX11_odds 52 = .ok (.getfield 29, 3) := by decide +kernel
theorem dX11_odds_55 : decode cX11_odds 55 = .ok (.iload_n 1, 1) := by decide +kernel
theorem dX11_odds_56 : decode cX11_odds 56 = .ok (.invokevirtual 234, 3) := by decide +kernel
theorem dX11_odds_59 : decode cX11_odds 59 = .ok (.iconst (-1), 1) := by decide +kernel
theorem dX11_odds_60 : decode cX11_odds 60 = .ok (.if_icmp .eq 5, 3) := by decide +kernel
theorem dX11_odds_63 : decode cX11_odds 63 = .ok (.iconst 0, 1) := by decide +kernel
theorem dX11_odds_64 : decode cX11_odds 64 = .ok (.ireturn, 1) := by decide +kernel
theorem dX11_odds_65 : decode cX11_odds 65 = .ok (.bipush 100, 2) := by decide +kernel
theorem dX11_odds_67 : decode cX11_odds 67 = .ok (.iload_n 2, 1) := by decide +kernel
theorem dX11_odds_68 : decode cX11_odds 68 = .ok (.imul, 1) := by decide +kernel
theorem dX11_odds_69 : decode cX11_odds 69 = .ok (.aload_n 0, 1) := by decide +kernel
theorem dX11_odds_70 : decode cX11_odds 70 = .ok (.getfield 29, 3) := by decide +kernel
theorem dX11_odds_73 : decode cX11_odds 73 = .ok (.getfield 93, 3) := by decide +kernel
theorem dX11_odds_76 : decode cX11_odds 76 = .ok (.bipush 9, 2) := by decide +kernel
theorem dX11_odds_78 : decode cX11_odds 78 = .ok (.invokevirtual 106, 3) := by decide +kernel
theorem dX11_odds_81 : decode cX11_odds 81 = .ok (.aload_n 0, 1) := by decide +kernel
theorem dX11_odds_82 : decode cX11_odds 82 = .ok (.getfield 29, 3) := by decide +kernel
theorem dX11_odds_85 : decode cX11_odds 85 = .ok (.iload_n 1, 1) := by decide +kernel
theorem dX11_odds_86 : decode cX11_odds 86 = .ok (.invokevirtual 263, 3) := by decide +kernel
theorem dX11_odds_89 : decode cX11_odds 89 = .ok (.imul, 1) := by decide +kernel
theorem dX11_odds_90 : decode cX11_odds 90 = .ok (.isub, 1) := by decide +kernel
theorem dX11_odds_91 : decode cX11_odds 91 = .ok (.ireturn, 1) := by decide +kernel
abbrev MX11_odds : MI := (RX11, cX11_odds, 3, 5, false)
def bX11_odds : St := (seqS (lsI 2 (calX decI (ckV 5 0) mX5_size (agC va_rf (getR 9 5 (getR 10 10 (getR 11 3 (lvR 0)))) agN))) (seqS (ifS (orX (eq0 (lvI 2)) (notX (ne0 (calX decI (ckV 11 1) mX11_canPass (agC va_rf (lvR 0) (agC Value.int (ciI (iI 1)) agN)))))) (retI (ciI (iI (-1))))) (seqS (ifS (eqI (lvI 1) (ciI (iI (-1)))) (retI (mulI (ciI (iI 100)) (lvI 2)))) (seqS (ifS (notX (ne0 (calX decI (ckV 10 1) mX10_hasBackup (agC va_rf (getR 11 3 (lvR 0)) (agC Value.int (lvI 1) agN))))) (retI (ciI (iI (-1))))) (seqS (ifS (neI (calX decI (ckV 10 1) mX10_lostAt (agC va_rf (getR 11 3 (lvR 0)) (agC Value.int (lvI 1) agN))) (ciI (iI (-1)))) (retI (ciI (iI 0)))) (retI (subI (mulI (ciI (iI 100)) (lvI 2)) (mulI (calX decI (ckV 6 1) mX6_number (agC va_rf (getR 10 0 (getR 11 3 (lvR 0))) (agC Value.int (ciI (iI 9)) agN))) (calX decI (ckV 10 1) mX10_countBoxesOf (agC va_rf (getR 11 3 (lvR 0)) (agC Value.int (lvI 1) agN)))))))))))
theorem jX11_odds : JS MX11_odds 0 0 0 92 [] bX11_odds :=
  (JS.seq (pc1 := 14) (JS.is (pc1 := 13) (k := 2) (JX.call (pc1 := 10) decI_ok (JA.r (JX.getR (pc1 := 7) (c := 9) (k := 5) (i := 124) (JX.getR (pc1 := 4) (c := 10) (k := 10) (i := 112) (JX.getR (pc1 := 1) (c := 11) (k := 3) (i := 29) (JX.al (k := 0) rfl dX11_odds_0) cl11 (by decide) rfl fk11_29 dX11_odds_1) cl10 (by decide) rfl fk11_112 dX11_odds_4) cl9 (by decide) rfl fk11_124 dX11_odds_7) JA.nil) aX5_size (RunK.V (i := 69) (c := 5) (n := 0) cl5 rfl (CN nX5_size (by decide) (by decide)) gw586 gw587 gw588 dX11_odds_10) (by decide)) rfl (show 2 < 3 by decide) dX11_odds_13) (JS.seq (pc1 := 28) (JS.iff (l := 28) (pc1 := 26) (CJ.or_f (l := 26) (pc1 := 18) (CJ.eq0_t (tgt := 26) (pc1 := 15) (JX.il (k := 2) rfl dX11_odds_14) dX11_odds_15 rfl) (CJ.not_f (CJ.ne0_t (tgt := 28) (pc1 := 23) (JX.call (pc1 := 20) decI_ok (JA.r (JX.al (k := 0) rfl dX11_odds_18) (JA.i (JX.ic (n := 1) rfl dX11_odds_19) JA.nil)) aX11_canPass (RunK.V (i := 243) (c := 11) (n := 1) cl11 rfl (CN nX11_canPass (by decide) (by decide)) gw1030 gw1032 gs39 dX11_odds_20) (by decide)) dX11_odds_23 rfl)) (Or.inl rfl)) (JS.retI (pc1 := 27) (JX.ic (n := (-1)) rfl dX11_odds_26) dX11_odds_27) (Or.inl rfl)) (JS.seq (pc1 := 38) (JS.iff (l := 38) (pc1 := 33) (CJ.eq_f (tgt := 38) (pc1 := 29) (pc2 := 30) (JX.il (k := 1) rfl dX11_odds_28) (JX.ic (n := (-1)) rfl dX11_odds_29) dX11_odds_30 rfl) (JS.retI (pc1 := 37) (JX.imul (pc1 := 35) (pc2 := 36) (JX.bp (n := 100) kb100 dX11_odds_33) (JX.il (k := 2) rfl dX11_odds_35) dX11_odds_36) dX11_odds_37) (Or.inl rfl)) (JS.seq (pc1 := 51) (JS.iff (l := 51) (pc1 := 49) (CJ.not_f (CJ.ne0_t (tgt := 51) (pc1 := 46) (JX.call (pc1 := 43) decI_ok (JA.r (JX.getR (pc1 := 39) (c := 11) (k := 3) (i := 29) (JX.al (k := 0) rfl dX11_odds_38) cl11 (by decide) rfl fk11_29 dX11_odds_39) (JA.i (JX.il (k := 1) rfl dX11_odds_42) JA.nil)) aX10_hasBackup (RunK.V (i := 154) (c := 10) (n := 1) cl10 rfl (CN nX10_hasBackup (by decide) (by decide)) gw808 gw771 gw772 dX11_odds_43) (by decide)) dX11_odds_46 rfl)) (JS.retI (pc1 := 50) (JX.ic (n := (-1)) rfl dX11_odds_49) dX11_odds_50) (Or.inl rfl)) (JS.seq (pc1 := 65) (JS.iff (l := 65) (pc1 := 63) (CJ.ne_f (tgt := 65) (pc1 := 59) (pc2 := 60) (JX.call (pc1 := 56) decI_ok (JA.r (JX.getR (pc1 := 52) (c := 11) (k := 3) (i := 29) (JX.al (k := 0) rfl dX11_odds_51) cl11 (by decide) rfl fk11_29 dX11_odds_52) (JA.i (JX.il (k := 1) rfl dX11_odds_55) JA.nil)) aX10_lostAt (RunK.V (i := 234) (c := 10) (n := 1) cl10 rfl (CN nX10_lostAt (by decide) (by decide)) gw987 gw988 gw989 dX11_odds_56) (by decide)) (JX.ic (n := (-1)) rfl dX11_odds_59) dX11_odds_60 rfl) (JS.retI (pc1 := 64) (JX.ic (n := 0) rfl dX11_odds_63) dX11_odds_64) (Or.inl rfl)) (JS.retI (pc1 := 91) (JX.isub (pc1 := 69) (pc2 := 90) (JX.imul (pc1 := 67) (pc2 := 68) (JX.bp (n := 100) kb100 dX11_odds_65) (JX.il (k := 2) rfl dX11_odds_67) dX11_odds_68) (JX.imul (pc1 := 81) (pc2 := 89) (JX.call (pc1 := 78) decI_ok (JA.r (JX.getR (pc1 := 73) (c := 10) (k := 0) (i := 93) (JX.getR (pc1 := 70) (c := 11) (k := 3) (i := 29) (JX.al (k := 0) rfl dX11_odds_69) cl11 (by decide) rfl fk11_29 dX11_odds_70) cl10 (by decide) rfl fk11_93 dX11_odds_73) (JA.i (JX.bp (n := 9) kb9 dX11_odds_76) JA.nil)) aX6_number (RunK.V (i := 106) (c := 6) (n := 1) cl6 rfl (CN nX6_number (by decide) (by decide)) gw761 gw762 gw763 dX11_odds_78) (by decide)) (JX.call (pc1 := 86) decI_ok (JA.r (JX.getR (pc1 := 82) (c := 11) (k := 3) (i := 29) (JX.al (k := 0) rfl dX11_odds_81) cl11 (by decide) rfl fk11_29 dX11_odds_82) (JA.i (JX.il (k := 1) rfl dX11_odds_85) JA.nil)) aX10_countBoxesOf (RunK.V (i := 263) (c := 10) (n := 1) cl10 rfl (CN nX10_countBoxesOf (by decide) (by decide)) gw1089 gw1090 gw1091 dX11_odds_86) (by decide)) dX11_odds_89) dX11_odds_90) dX11_odds_91))))))
def mX11_odds : MS := runM 3 (some (.int)) bX11_odds
theorem aX11_odds : MA yX11_odds cX11_odds 3 (some (.int)) 5 mX11_odds := MA.of (plainFor_of_name (by decide)) jX11_odds
theorem eX11_odds (a0 : Nat) (a1 : Int32) (h : AH) : mX11_odds [.ref a0, .int a1] h = (bX11_odds [.val (.ref a0), .val (.int a1), .unset] h).bind (finM (some (.int))) := rfl
/-! Scope.meetRows -/
theorem dX8_meetRows_0 : decode cX8_meetRows 0 = .ok (.aload_n 1, 1) := by decide +kernel
theorem dX8_meetRows_1 : decode cX8_meetRows 1 = .ok (.invokevirtual 24, 3) := by decide +kernel
theorem dX8_meetRows_4 : decode cX8_meetRows 4 = .ok (.iconst 2, 1) := by decide +kernel
theorem dX8_meetRows_5 : decode cX8_meetRows 5 = .ok (.if_icmp .lt 21, 3) := by decide +kernel
theorem dX8_meetRows_8 : decode cX8_meetRows 8 = .ok (.aload_n 1, 1) := by decide +kernel
theorem dX8_meetRows_9 : decode cX8_meetRows 9 = .ok (.invokevirtual 24, 3) := by decide +kernel
theorem dX8_meetRows_12 : decode cX8_meetRows 12 = .ok (.bipush 32, 2) := by decide +kernel
theorem dX8_meetRows_14 : decode cX8_meetRows 14 = .ok (.if_icmp .gt 12, 3) := by decide +kernel
theorem dX8_meetRows_17 : decode cX8_meetRows 17 = .ok (.aload_n 1, 1) := by decide +kernel
theorem dX8_meetRows_18 : decode cX8_meetRows 18 = .ok (.invokevirtual 24, 3) := by decide +kernel
theorem dX8_meetRows_21 : decode cX8_meetRows 21 = .ok (.iconst 2, 1) := by decide +kernel
theorem dX8_meetRows_22 : decode cX8_meetRows 22 = .ok (.irem, 1) := by decide +kernel
theorem dX8_meetRows_23 : decode cX8_meetRows 23 = .ok (.ifCond .eq 5, 3) := by decide +kernel
theorem dX8_meetRows_26 : decode cX8_meetRows 26 = .ok (.iconst 0, 1) := by decide +kernel
theorem dX8_meetRows_27 : decode cX8_meetRows 27 = .ok (.ireturn, 1) := by decide +kernel
theorem dX8_meetRows_28 : decode cX8_meetRows 28 = .ok (.iconst 0, 1) := by decide +kernel
theorem dX8_meetRows_29 : decode cX8_meetRows 29 = .ok (.istore_n 2, 1) := by decide +kernel
theorem dX8_meetRows_30 : decode cX8_meetRows 30 = .ok (.iload_n 2, 1) := by decide +kernel
theorem dX8_meetRows_31 : decode cX8_meetRows 31 = .ok (.aload_n 1, 1) := by decide +kernel
theorem dX8_meetRows_32 : decode cX8_meetRows 32 = .ok (.invokevirtual 24, 3) := by decide +kernel
theorem dX8_meetRows_35 : decode cX8_meetRows 35 = .ok (.if_icmp .ge 33, 3) := by decide +kernel
theorem dX8_meetRows_38 : decode cX8_meetRows 38 = .ok (.aload_n 1, 1) := by decide +kernel
theorem dX8_meetRows_39 : decode cX8_meetRows 39 = .ok (.iload_n 2, 1) := by decide +kernel
theorem dX8_meetRows_40 : decode cX8_meetRows 40 = .ok (.invokevirtual 28, 3) := by decide +kernel
theorem dX8_meetRows_43 : decode cX8_meetRows 43 = .ok (.bipush 40, 2) := by decide +kernel
theorem dX8_meetRows_45 : decode cX8_meetRows 45 = .ok (.if_icmp .ge 15, 3) := by decide +kernel
theorem dX8_meetRows_48 : decode cX8_meetRows 48 = .ok (.aload_n 1, 1) := by decide +kernel
theorem dX8_meetRows_49 : decode cX8_meetRows 49 = .ok (.iload_n 2, 1) := by decide +kernel
theorem dX8_meetRows_50 : decode cX8_meetRows 50 = .ok (.iconst 1, 1) := by decide +kernel
theorem dX8_meetRows_51 : decode cX8_meetRows 51 = .ok (.iadd, 1) := by decide +kernel
theorem dX8_meetRows_52 : decode cX8_meetRows 52 = .ok (.invokevirtual 28, 3) := by decide +kernel
theorem dX8_meetRows_55 : decode cX8_meetRows 55 = .ok (.bipush 60, 2) := by decide +kernel
theorem dX8_meetRows_57 : decode cX8_meetRows 57 = .ok (.if_icmp .le 5, 3) := by decide +kernel
theorem dX8_meetRows_60 : decode cX8_meetRows 60 = .ok (.iconst 0, 1) := by decide +kernel
theorem dX8_meetRows_61 : decode cX8_meetRows 61 = .ok (.ireturn, 1) := by decide +kernel
theorem dX8_meetRows_62 : decode cX8_meetRows 62 = .ok (.iinc 2 2, 3) := by decide +kernel
theorem dX8_meetRows_65 : decode cX8_meetRows 65 = .ok (.goto (-35), 3) := by decide +kernel
theorem dX8_meetRows_68 : decode cX8_meetRows 68 = .ok (.aload_n 0, 1) := by decide +kernel
theorem dX8_meetRows_69 : decode cX8_meetRows 69 = .ok (.getfield 12, 3) := by decide +kernel
theorem dX8_meetRows_72 : decode cX8_meetRows 72 = .ok (.aload_n 1, 1) := by decide +kernel
theorem dX8_meetRows_73 : decode cX8_meetRows 73 = .ok (.invokevirtual 32, 3) := by decide +kernel
theorem dX8_meetRows_76 : decode cX8_meetRows 76 = .ok (.iconst 1, 1) := by decide +kernel
theorem dX8_meetRows_77 : decode cX8_meetRows 77 = .ok (.ireturn, 1) := by decide +kernel
abbrev MX8_meetRows : MI := (RX8, cX8_meetRows, 3, 3, false)
def lcX8_meetRows_1 : Ex Bool := (ltI (lvI 2) (calX decI (ckV 5 0) mX5_size (agC va_rf (lvR 1) agN)))
def lbX8_meetRows_1 : St := (forB (ifS (orX (geI (calX decI (ckV 5 1) mX5_at (agC va_rf (lvR 1) (agC Value.int (lvI 2) agN))) (ciI (iI 40))) (gtI (calX decI (ckV 5 1) mX5_at (agC va_rf (lvR 1) (agC Value.int (addI (lvI 2) (ciI (iI 1))) agN))) (ciI (iI 60)))) (retI (ciI (iI 0)))) (incI 2 (iI 2)))
def bX8_meetRows : St := (seqS (ifS (orX (orX (ltI (calX decI (ckV 5 0) mX5_size (agC va_rf (lvR 1) agN)) (ciI (iI 2))) (gtI (calX decI (ckV 5 0) mX5_size (agC va_rf (lvR 1) agN)) (ciI (iI 32)))) (ne0 (remI (calX decI (ckV 5 0) mX5_size (agC va_rf (lvR 1) agN)) (ciI (iI 2))))) (retI (ciI (iI 0)))) (seqS (scS 2 (seqS (lsI 2 (ciI (iI 0))) (whileS lcX8_meetRows_1 lbX8_meetRows_1))) (seqS (calS (ckV 5 1) mX5_copyFrom (agC va_rf (getR 8 0 (lvR 0)) (agC va_rf (lvR 1) agN))) (retI (ciI (iI 1))))))
theorem jX8_meetRows : JS MX8_meetRows 0 0 0 78 [] bX8_meetRows :=
  (JS.seq (pc1 := 28) (JS.iff (l := 28) (pc1 := 26) (CJ.or_f (l := 26) (pc1 := 17) (CJ.or_t (pc1 := 8) (CJ.lt_t (tgt := 26) (pc1 := 4) (pc2 := 5) (JX.call (pc1 := 1) decI_ok (JA.r (JX.al (k := 1) rfl dX8_meetRows_0) JA.nil) aX5_size (RunK.V (i := 24) (c := 5) (n := 0) cl5 rfl (CN nX5_size (by decide) (by decide)) gw1101 gw587 gw588 dX8_meetRows_1) (by decide)) (JX.ic (n := 2) rfl dX8_meetRows_4) dX8_meetRows_5 rfl) (CJ.gt_t (tgt := 26) (pc1 := 12) (pc2 := 14) (JX.call (pc1 := 9) decI_ok (JA.r (JX.al (k := 1) rfl dX8_meetRows_8) JA.nil) aX5_size (RunK.V (i := 24) (c := 5) (n := 0) cl5 rfl (CN nX5_size (by decide) (by decide)) gw1101 gw587 gw588 dX8_meetRows_9) (by decide)) (JX.bp (n := 32) kb32 dX8_meetRows_12) dX8_meetRows_14 rfl)) (CJ.ne0_f (tgt := 28) (pc1 := 23) (JX.irem (pc1 := 21) (pc2 := 22) (JX.call (pc1 := 18) decI_ok (JA.r (JX.al (k := 1) rfl dX8_meetRows_17) JA.nil) aX5_size (RunK.V (i := 24) (c := 5) (n := 0) cl5 rfl (CN nX5_size (by decide) (by decide)) gw1101 gw587 gw588 dX8_meetRows_18) (by decide)) (JX.ic (n := 2) rfl dX8_meetRows_21) dX8_meetRows_22) dX8_meetRows_23 rfl) (Or.inl rfl)) (JS.retI (pc1 := 27) (JX.ic (n := 0) rfl dX8_meetRows_26) dX8_meetRows_27) (Or.inl rfl)) (JS.seq (pc1 := 68) (JS.sc (JS.seq (pc1 := 30) (JS.is (pc1 := 29) (k := 2) (JX.ic (n := 0) rfl dX8_meetRows_28) rfl (show 2 < 3 by decide) dX8_meetRows_29) (JS.while (l := 68) (lb := 68) (pc1 := 38) (pc2 := 65) (pc3 := 68) (CJ.lt_f (tgt := 68) (pc1 := 31) (pc2 := 35) (JX.il (k := 2) rfl dX8_meetRows_30) (JX.call (pc1 := 32) decI_ok (JA.r (JX.al (k := 1) rfl dX8_meetRows_31) JA.nil) aX5_size (RunK.V (i := 24) (c := 5) (n := 0) cl5 rfl (CN nX5_size (by decide) (by decide)) gw1101 gw587 gw588 dX8_meetRows_32) (by decide)) dX8_meetRows_35 rfl) (JS.forb (pc1 := 62) (JS.iff (l := 62) (pc1 := 60) (CJ.or_f (l := 60) (pc1 := 48) (CJ.ge_t (tgt := 60) (pc1 := 43) (pc2 := 45) (JX.call (pc1 := 40) decI_ok (JA.r (JX.al (k := 1) rfl dX8_meetRows_38) (JA.i (JX.il (k := 2) rfl dX8_meetRows_39) JA.nil)) aX5_at (RunK.V (i := 28) (c := 5) (n := 1) cl5 rfl (CN nX5_at (by decide) (by decide)) gw1102 gw595 gw596 dX8_meetRows_40) (by decide)) (JX.bp (n := 40) kb40 dX8_meetRows_43) dX8_meetRows_45 rfl) (CJ.gt_f (tgt := 62) (pc1 := 55) (pc2 := 57) (JX.call (pc1 := 52) decI_ok (JA.r (JX.al (k := 1) rfl dX8_meetRows_48) (JA.i (JX.iadd (pc1 := 50) (pc2 := 51) (JX.il (k := 2) rfl dX8_meetRows_49) (JX.ic (n := 1) rfl dX8_meetRows_50) dX8_meetRows_51) JA.nil)) aX5_at (RunK.V (i := 28) (c := 5) (n := 1) cl5 rfl (CN nX5_at (by decide) (by decide)) gw1102 gw595 gw596 dX8_meetRows_52) (by decide)) (JX.bp (n := 60) kb60 dX8_meetRows_55) dX8_meetRows_57 rfl) (Or.inl rfl)) (JS.retI (pc1 := 61) (JX.ic (n := 0) rfl dX8_meetRows_60) dX8_meetRows_61) (Or.inl rfl)) (JS.inc (n := 2) rfl (show 2 < 3 by decide) dX8_meetRows_62)) dX8_meetRows_65 rfl (Or.inl rfl) (Or.inl rfl)))) (JS.seq (pc1 := 76) (JS.call (pc1 := 73) (JA.r (JX.getR (pc1 := 69) (c := 8) (k := 0) (i := 12) (JX.al (k := 0) rfl dX8_meetRows_68) cl8 (by decide) rfl fk8_12 dX8_meetRows_69) (JA.r (JX.al (k := 1) rfl dX8_meetRows_72) JA.nil)) aX5_copyFrom (RunK.V (i := 32) (c := 5) (n := 1) cl5 rfl (CN nX5_copyFrom (by decide) (by decide)) gw1103 gw916 gw917 dX8_meetRows_73)) (JS.retI (pc1 := 77) (JX.ic (n := 1) rfl dX8_meetRows_76) dX8_meetRows_77))))
def mX8_meetRows : MS := runM 3 (some (.boolean)) bX8_meetRows
theorem aX8_meetRows : MA yX8_meetRows cX8_meetRows 3 (some (.boolean)) 3 mX8_meetRows := MA.of (plainFor_of_name (by decide)) jX8_meetRows
theorem eX8_meetRows (a0 : Nat) (a1 : Nat) (h : AH) : mX8_meetRows [.ref a0, .ref a1] h = (bX8_meetRows [.val (.ref a0), .val (.ref a1), .unset] h).bind (finM (some (.boolean))) := rfl
/-! PieceStore.meet -/
theorem dX11_meet_0 : decode cX11_meet 0 = .ok (.aload_n 0, 1) := by decide +kernel
theorem dX11_meet_1 : decode cX11_meet 1 = .ok (.getfield 54, 3) := by decide +kernel
theorem dX11_meet_4 : decode cX11_meet 4 = .ok (.ifCond .eq 21, 3) := by decide +kernel
theorem dX11_meet_7 : decode cX11_meet 7 = .ok (.aload_n 0, 1) := by decide +kernel
theorem dX11_meet_8 : decode cX11_meet 8 = .ok (.getfield 43, 3) := by decide +kernel
theorem dX11_meet_11 : decode cX11_meet 11 = .ok (.aload_n 0, 1) := by decide +kernel
theorem dX11_meet_12 : decode cX11_meet 12 = .ok (.getfield 10, 3) := by decide +kernel
theorem dX11_meet_15 : decode cX11_meet 15 = .ok (.invokevirtual 266, 3) := by decide +kernel
theorem dX11_meet_18 : decode cX11_meet 18 = .ok (.ifCond .eq 7, 3) := by decide +kernel
theorem dX11_meet_21 : decode cX11_meet 21 = .ok (.iconst 1, 1) := by decide +kernel
theorem dX11_meet_22 : decode cX11_meet 22 = .ok (.goto 4, 3) := by decide +kernel
theorem dX11_meet_25 : decode cX11_meet 25 = .ok (.iconst 0, 1) := by decide +kernel
theorem dX11_meet_26 : decode cX11_meet 26 = .ok (.istore_n 1, 1) := by decide +kernel
theorem dX11_meet_27 : decode cX11_meet 27 = .ok (.aload_n 0, 1) := by decide +kernel
theorem dX11_meet_28 : decode cX11_meet 28 = .ok (.getfield 10, 3) := by decide +kernel
theorem dX11_meet_31 : decode cX11_meet 31 = .ok (.invokevirtual 88, 3) := by decide +kernel
theorem dX11_meet_34 : decode cX11_meet 34 = .ok (.iload_n 1, 1) := by decide +kernel
theorem dX11_meet_35 : decode cX11_meet 35 = .ok (.ifCond .eq 18, 3) := by decide +kernel
theorem dX11_meet_38 : decode cX11_meet 38 = .ok (.aload_n 0, 1) := by decide +kernel
theorem dX11_meet_39 : decode cX11_meet 39 = .ok (.getfield 43, 3) := by decide +kernel
theorem dX11_meet_42 : decode cX11_meet 42 = .ok (.getfield 100, 3) := by decide +kernel
theorem dX11_meet_45 : decode cX11_meet 45 = .ok (.invokevirtual 69, 3) := by decide +kernel
theorem dX11_meet_48 : decode cX11_meet 48 = .ok (.iconst 2, 1) := by decide +kernel
theorem dX11_meet_49 : decode cX11_meet 49 = .ok (.idiv, 1) := by decide +kernel
theorem dX11_meet_50 : decode cX11_meet 50 = .ok (.goto 8, 3) := by decide +kernel
theorem dX11_meet_53 : decode cX11_meet 53 = .ok (.aload_n 0, 1) := by decide +kernel
theorem dX11_meet_54 : decode cX11_meet 54 = .ok (.iconst 5, 1) := by decide +kernel
theorem dX11_meet_55 : decode cX11_meet 55 = .ok (.invokevirtual 73, 3) := by decide +kernel
theorem dX11_meet_58 : decode cX11_meet 58 = .ok (.ireturn, 1) := by decide +kernel
abbrev MX11_meet : MI := (RX11, cX11_meet, 2, 4, false)
def bX11_meet : St := (seqS (lsI 1 (iteX (andX (ne0 (getI 11 7 (lvR 0))) (ne0 (calX decI (ckV 8 1) mX8_meetRows (agC va_rf (getR 11 5 (lvR 0)) (agC va_rf (getR 11 0 (lvR 0)) agN))))) (ciI (iI 1)) (ciI (iI 0)))) (seqS (calS (ckV 5 0) mX5_clear (agC va_rf (getR 11 0 (lvR 0)) agN)) (retI (iteX (ne0 (lvI 1)) (divI (calX decI (ckV 5 0) mX5_size (agC va_rf (getR 8 0 (getR 11 5 (lvR 0))) agN)) (ciI (iI 2))) (calX decI (ckV 11 1) mX11_refuse (agC va_rf (lvR 0) (agC Value.int (ciI (iI 5)) agN)))))))
theorem jX11_meet : JS MX11_meet 0 0 0 59 [] bX11_meet :=
  (JS.seq (pc1 := 27) (JS.is (pc1 := 26) (k := 1) (JX.ite (l := 25) (pc1 := 21) (pc2 := 22) (pc3 := 26) (lend := 26) (CJ.and_f (pc1 := 7) (CJ.ne0_f (tgt := 25) (pc1 := 4) (JX.getI (pc1 := 1) (c := 11) (k := 7) (i := 54) (JX.al (k := 0) rfl dX11_meet_0) cl11 (by decide) rfl fk11_54 dX11_meet_1) dX11_meet_4 rfl) (CJ.ne0_f (tgt := 25) (pc1 := 18) (JX.call (pc1 := 15) decI_ok (JA.r (JX.getR (pc1 := 8) (c := 11) (k := 5) (i := 43) (JX.al (k := 0) rfl dX11_meet_7) cl11 (by decide) rfl fk11_43 dX11_meet_8) (JA.r (JX.getR (pc1 := 12) (c := 11) (k := 0) (i := 10) (JX.al (k := 0) rfl dX11_meet_11) cl11 (by decide) rfl fk11_10 dX11_meet_12) JA.nil)) aX8_meetRows (RunK.V (i := 266) (c := 8) (n := 1) cl8 rfl (CN nX8_meetRows (by decide) (by decide)) gw1097 gw1098 gw1099 dX11_meet_15) (by decide)) dX11_meet_18 rfl)) (JX.ic (n := 1) rfl dX11_meet_21) dX11_meet_22 rfl (JX.ic (n := 0) rfl dX11_meet_25) (Or.inl rfl)) rfl (show 1 < 2 by decide) dX11_meet_26) (JS.seq (pc1 := 34) (JS.call (pc1 := 31) (JA.r (JX.getR (pc1 := 28) (c := 11) (k := 0) (i := 10) (JX.al (k := 0) rfl dX11_meet_27) cl11 (by decide) rfl fk11_10 dX11_meet_28) JA.nil) aX5_clear (RunK.V (i := 88) (c := 5) (n := 0) cl5 rfl (CN nX5_clear (by decide) (by decide)) gw751 gw209 gw210 dX11_meet_31)) (JS.retI (pc1 := 58) (JX.ite (l := 53) (pc1 := 38) (pc2 := 50) (pc3 := 58) (lend := 58) (CJ.ne0_f (tgt := 53) (pc1 := 35) (JX.il (k := 1) rfl dX11_meet_34) dX11_meet_35 rfl) (JX.idiv (pc1 := 48) (pc2 := 49) (JX.call (pc1 := 45) decI_ok (JA.r (JX.getR (pc1 := 42) (c := 8) (k := 0) (i := 100) (JX.getR (pc1 := 39) (c := 11) (k := 5) (i := 43) (JX.al (k := 0) rfl dX11_meet_38) cl11 (by decide) rfl fk11_43 dX11_meet_39) cl8 (by decide) rfl fk11_100 dX11_meet_42) JA.nil) aX5_size (RunK.V (i := 69) (c := 5) (n := 0) cl5 rfl (CN nX5_size (by decide) (by decide)) gw586 gw587 gw588 dX11_meet_45) (by decide)) (JX.ic (n := 2) rfl dX11_meet_48) dX11_meet_49) dX11_meet_50 rfl (JX.call (pc1 := 55) decI_ok (JA.r (JX.al (k := 0) rfl dX11_meet_53) (JA.i (JX.ic (n := 5) rfl dX11_meet_54) JA.nil)) aX11_refuse (RunK.V (i := 73) (c := 11) (n := 1) cl11 rfl (CN nX11_refuse (by decide) (by decide)) gw590 gw592 gs1 dX11_meet_55) (by decide)) (Or.inl rfl)) dX11_meet_58)))
def mX11_meet : MS := runM 2 (some (.int)) bX11_meet
theorem aX11_meet : MA yX11_meet cX11_meet 2 (some (.int)) 4 mX11_meet := MA.of (plainFor_of_name (by decide)) jX11_meet
theorem eX11_meet (a0 : Nat) (h : AH) : mX11_meet [.ref a0] h = (bX11_meet [.val (.ref a0), .unset] h).bind (finM (some (.int))) := rfl
/-! Scope.lengthBy -/
theorem dX8_lengthBy_0 : decode cX8_lengthBy 0 = .ok (.aload_n 0, 1) := by decide +kernel
theorem dX8_lengthBy_1 : decode cX8_lengthBy 1 = .ok (.getfield 18, 3) := by decide +kernel
theorem dX8_lengthBy_4 : decode cX8_lengthBy 4 = .ok (.iload_n 1, 1) := by decide +kernel
theorem dX8_lengthBy_5 : decode cX8_lengthBy 5 = .ok (.iconst 1, 1) := by decide +kernel
theorem dX8_lengthBy_6 : decode cX8_lengthBy 6 = .ok (.isub, 1) := by decide +kernel
theorem dX8_lengthBy_7 : decode cX8_lengthBy 7 = .ok (.bipush 40, 2) := by decide +kernel
theorem dX8_lengthBy_9 : decode cX8_lengthBy 9 = .ok (.imul, 1) := by decide +kernel
theorem dX8_lengthBy_10 : decode cX8_lengthBy 10 = .ok (.iload_n 2, 1) := by decide +kernel
theorem dX8_lengthBy_11 : decode cX8_lengthBy 11 = .ok (.iadd, 1) := by decide +kernel
theorem dX8_lengthBy_12 : decode cX8_lengthBy 12 = .ok (.invokevirtual 28, 3) := by decide +kernel
theorem dX8_lengthBy_15 : decode cX8_lengthBy 15 = .ok (.ireturn, 1) := by decide +kernel
abbrev MX8_lengthBy : MI := (RX8, cX8_lengthBy, 3, 2, false)
def bX8_lengthBy : St := (retI (calX decI (ckV 5 1) mX5_at (agC va_rf (getR 8 1 (lvR 0)) (agC Value.int (addI (mulI (subI (lvI 1) (ciI (iI 1))) (ciI (iI 40))) (lvI 2)) agN))))
theorem jX8_lengthBy : JS MX8_lengthBy 0 0 0 16 [] bX8_lengthBy :=
  (JS.retI (pc1 := 15) (JX.call (pc1 := 12) decI_ok (JA.r (JX.getR (pc1 := 1) (c := 8) (k := 1) (i := 18) (JX.al (k := 0) rfl dX8_lengthBy_0) cl8 (by decide) rfl fk8_18 dX8_lengthBy_1) (JA.i (JX.iadd (pc1 := 10) (pc2 := 11) (JX.imul (pc1 := 7) (pc2 := 9) (JX.isub (pc1 := 5) (pc2 := 6) (JX.il (k := 1) rfl dX8_lengthBy_4) (JX.ic (n := 1) rfl dX8_lengthBy_5) dX8_lengthBy_6) (JX.bp (n := 40) kb40 dX8_lengthBy_7) dX8_lengthBy_9) (JX.il (k := 2) rfl dX8_lengthBy_10) dX8_lengthBy_11) JA.nil)) aX5_at (RunK.V (i := 28) (c := 5) (n := 1) cl5 rfl (CN nX5_at (by decide) (by decide)) gw1102 gw595 gw596 dX8_lengthBy_12) (by decide)) dX8_lengthBy_15)
def mX8_lengthBy : MS := runM 3 (some (.int)) bX8_lengthBy
theorem aX8_lengthBy : MA yX8_lengthBy cX8_lengthBy 3 (some (.int)) 2 mX8_lengthBy := MA.of (plainFor_of_name (by decide)) jX8_lengthBy
theorem eX8_lengthBy (a0 : Nat) (a1 : Int32) (a2 : Int32) (h : AH) : mX8_lengthBy [.ref a0, .int a1, .int a2] h = (bX8_lengthBy [.val (.ref a0), .val (.int a1), .val (.int a2)] h).bind (finM (some (.int))) := rfl
/-! Scope.isMet -/
theorem dX8_isMet_0 : decode cX8_isMet 0 = .ok (.iconst 0, 1) := by decide +kernel
theorem dX8_isMet_1 : decode cX8_isMet 1 = .ok (.istore_n 2, 1) := by decide +kernel
theorem dX8_isMet_2 : decode cX8_isMet 2 = .ok (.iload_n 2, 1) := by decide +kernel
theorem dX8_isMet_3 : decode cX8_isMet 3 = .ok (.aload_n 0, 1) := by decide +kernel
theorem dX8_isMet_4 : decode cX8_isMet 4 = .ok (.getfield 12, 3) := by decide +kernel
theorem dX8_isMet_7 : decode cX8_isMet 7 = .ok (.invokevirtual 24, 3) := by decide +kernel
theorem dX8_isMet_10 : decode cX8_isMet 10 = .ok (.if_icmp .ge 37, 3) := by decide +kernel
theorem dX8_isMet_13 : decode cX8_isMet 13 = .ok (.aload_n 0, 1) := by decide +kernel
theorem dX8_isMet_14 : decode cX8_isMet 14 = .ok (.iload_n 1, 1) := by decide +kernel
theorem dX8_isMet_15 : decode cX8_isMet 15 = .ok (.aload_n 0, 1) := by decide +kernel
theorem dX8_isMet_16 : decode cX8_isMet 16 = .ok (.getfield 12, 3) := by decide +kernel
theorem dX8_isMet_19 : decode cX8_isMet 19 = .ok (.iload_n 2, 1) := by decide +kernel
theorem dX8_isMet_20 : decode cX8_isMet 20 = .ok (.invokevirtual 28, 3) := by decide +kernel
theorem dX8_isMet_23 : decode cX8_isMet 23 = .ok (.invokevirtual 79, 3) := by decide +kernel
theorem dX8_isMet_26 : decode cX8_isMet 26 = .ok (.aload_n 0, 1) := by decide +kernel
theorem dX8_isMet_27 : decode cX8_isMet 27 = .ok (.getfield 12, 3) := by decide +kernel
theorem dX8_isMet_30 : decode cX8_isMet 30 = .ok (.iload_n 2, 1) := by decide +kernel
theorem dX8_isMet_31 : decode cX8_isMet 31 = .ok (.iconst 1, 1) := by decide +kernel
theorem dX8_isMet_32 : decode cX8_isMet 32 = .ok (.iadd, 1) := by decide +kernel
theorem dX8_isMet_33 : decode cX8_isMet 33 = .ok (.invokevirtual 28, 3) := by decide +kernel
theorem dX8_isMet_36 : decode cX8_isMet 36 = .ok (.if_icmp .eq 5, 3) := by decide +kernel
theorem dX8_isMet_39 : decode cX8_isMet 39 = .ok (.iconst 0, 1) := by decide +kernel
theorem dX8_isMet_40 : decode cX8_isMet 40 = .ok (.ireturn, 1) := by decide +kernel
theorem dX8_isMet_41 : decode cX8_isMet 41 = .ok (.iinc 2 2, 3) := by decide +kernel
theorem dX8_isMet_44 : decode cX8_isMet 44 = .ok (.goto (-42), 3) := by decide +kernel
theorem dX8_isMet_47 : decode cX8_isMet 47 = .ok (.iconst 1, 1) := by decide +kernel
theorem dX8_isMet_48 : decode cX8_isMet 48 = .ok (.ireturn, 1) := by decide +kernel
abbrev MX8_isMet : MI := (RX8, cX8_isMet, 3, 3, false)
def lcX8_isMet_1 : Ex Bool := (ltI (lvI 2) (calX decI (ckV 5 0) mX5_size (agC va_rf (getR 8 0 (lvR 0)) agN)))
def lbX8_isMet_1 : St := (forB (ifS (neI (calX decI (ckV 8 2) mX8_lengthBy (agC va_rf (lvR 0) (agC Value.int (lvI 1) (agC Value.int (calX decI (ckV 5 1) mX5_at (agC va_rf (getR 8 0 (lvR 0)) (agC Value.int (lvI 2) agN))) agN)))) (calX decI (ckV 5 1) mX5_at (agC va_rf (getR 8 0 (lvR 0)) (agC Value.int (addI (lvI 2) (ciI (iI 1))) agN)))) (retI (ciI (iI 0)))) (incI 2 (iI 2)))
def bX8_isMet : St := (seqS (scS 2 (seqS (lsI 2 (ciI (iI 0))) (whileS lcX8_isMet_1 lbX8_isMet_1))) (retI (ciI (iI 1))))
theorem jX8_isMet : JS MX8_isMet 0 0 0 49 [] bX8_isMet :=
  (JS.seq (pc1 := 47) (JS.sc (JS.seq (pc1 := 2) (JS.is (pc1 := 1) (k := 2) (JX.ic (n := 0) rfl dX8_isMet_0) rfl (show 2 < 3 by decide) dX8_isMet_1) (JS.while (l := 47) (lb := 47) (pc1 := 13) (pc2 := 44) (pc3 := 47) (CJ.lt_f (tgt := 47) (pc1 := 3) (pc2 := 10) (JX.il (k := 2) rfl dX8_isMet_2) (JX.call (pc1 := 7) decI_ok (JA.r (JX.getR (pc1 := 4) (c := 8) (k := 0) (i := 12) (JX.al (k := 0) rfl dX8_isMet_3) cl8 (by decide) rfl fk8_12 dX8_isMet_4) JA.nil) aX5_size (RunK.V (i := 24) (c := 5) (n := 0) cl5 rfl (CN nX5_size (by decide) (by decide)) gw1101 gw587 gw588 dX8_isMet_7) (by decide)) dX8_isMet_10 rfl) (JS.forb (pc1 := 41) (JS.iff (l := 41) (pc1 := 39) (CJ.ne_f (tgt := 41) (pc1 := 26) (pc2 := 36) (JX.call (pc1 := 23) decI_ok (JA.r (JX.al (k := 0) rfl dX8_isMet_13) (JA.i (JX.il (k := 1) rfl dX8_isMet_14) (JA.i (JX.call (pc1 := 20) decI_ok (JA.r (JX.getR (pc1 := 16) (c := 8) (k := 0) (i := 12) (JX.al (k := 0) rfl dX8_isMet_15) cl8 (by decide) rfl fk8_12 dX8_isMet_16) (JA.i (JX.il (k := 2) rfl dX8_isMet_19) JA.nil)) aX5_at (RunK.V (i := 28) (c := 5) (n := 1) cl5 rfl (CN nX5_at (by decide) (by decide)) gw1102 gw595 gw596 dX8_isMet_20) (by decide)) JA.nil))) aX8_lengthBy (RunK.V (i := 79) (c := 8) (n := 2) cl8 rfl (CN nX8_lengthBy (by decide) (by decide)) gw1121 gw1123 gs43 dX8_isMet_23) (by decide)) (JX.call (pc1 := 33) decI_ok (JA.r (JX.getR (pc1 := 27) (c := 8) (k := 0) (i := 12) (JX.al (k := 0) rfl dX8_isMet_26) cl8 (by decide) rfl fk8_12 dX8_isMet_27) (JA.i (JX.iadd (pc1 := 31) (pc2 := 32) (JX.il (k := 2) rfl dX8_isMet_30) (JX.ic (n := 1) rfl dX8_isMet_31) dX8_isMet_32) JA.nil)) aX5_at (RunK.V (i := 28) (c := 5) (n := 1) cl5 rfl (CN nX5_at (by decide) (by decide)) gw1102 gw595 gw596 dX8_isMet_33) (by decide)) dX8_isMet_36 rfl) (JS.retI (pc1 := 40) (JX.ic (n := 0) rfl dX8_isMet_39) dX8_isMet_40) (Or.inl rfl)) (JS.inc (n := 2) rfl (show 2 < 3 by decide) dX8_isMet_41)) dX8_isMet_44 rfl (Or.inl rfl) (Or.inl rfl)))) (JS.retI (pc1 := 48) (JX.ic (n := 1) rfl dX8_isMet_47) dX8_isMet_48))
def mX8_isMet : MS := runM 3 (some (.boolean)) bX8_isMet
theorem aX8_isMet : MA yX8_isMet cX8_isMet 3 (some (.boolean)) 3 mX8_isMet := MA.of (plainFor_of_name (by decide)) jX8_isMet
theorem eX8_isMet (a0 : Nat) (a1 : Int32) (h : AH) : mX8_isMet [.ref a0, .int a1] h = (bX8_isMet [.val (.ref a0), .val (.int a1), .unset] h).bind (finM (some (.boolean))) := rfl
/-! Scope.windowsLeft -/
theorem dX8_windowsLeft_0 : decode cX8_windowsLeft 0 = .ok (.aload_n 1, 1) := by decide +kernel
theorem dX8_windowsLeft_1 : decode cX8_windowsLeft 1 = .ok (.iload_n 2, 1) := by decide +kernel
theorem dX8_windowsLeft_2 : decode cX8_windowsLeft 2 = .ok (.invokevirtual 36, 3) := by decide +kernel
theorem dX8_windowsLeft_5 : decode cX8_windowsLeft 5 = .ok (.aload_n 0, 1) := by decide +kernel
theorem dX8_windowsLeft_6 : decode cX8_windowsLeft 6 = .ok (.getfield 18, 3) := by decide +kernel
theorem dX8_windowsLeft_9 : decode cX8_windowsLeft 9 = .ok (.invokevirtual 42, 3) := by decide +kernel
theorem dX8_windowsLeft_12 : decode cX8_windowsLeft 12 = .ok (.iconst 0, 1) := by decide +kernel
theorem dX8_windowsLeft_13 : decode cX8_windowsLeft 13 = .ok (.istore_n 3, 1) := by decide +kernel
theorem dX8_windowsLeft_14 : decode cX8_windowsLeft 14 = .ok (.iconst 1, 1) := by decide +kernel
theorem dX8_windowsLeft_15 : decode cX8_windowsLeft 15 = .ok (.istore 4, 2) := by decide +kernel
theorem dX8_windowsLeft_17 : decode cX8_windowsLeft 17 = .ok (.iload 4, 2) := by decide +kernel
theorem dX8_windowsLeft_19 : decode cX8_windowsLeft 19 = .ok (.bipush 16, 2) := by decide +kernel
theorem dX8_windowsLeft_21 : decode cX8_windowsLeft 21 = .ok (.if_icmp .gt 81, 3) := by decide +kernel
theorem dX8_windowsLeft_24 : decode cX8_windowsLeft 24 = .ok (.aload_n 1, 1) := by decide +kernel
theorem dX8_windowsLeft_25 : decode cX8_windowsLeft 25 = .ok (.getfield 45, 3) := by decide +kernel
theorem dX8_windowsLeft_28 : decode cX8_windowsLeft 28 = .ok (.aload_n 1, 1) := by decide +kernel
theorem dX8_windowsLeft_29 : decode cX8_windowsLeft 29 = .ok (.getfield 49, 3) := by decide +kernel
theorem dX8_windowsLeft_32 : decode cX8_windowsLeft 32 = .ok (.iload 4, 2) := by decide +kernel
theorem dX8_windowsLeft_34 : decode cX8_windowsLeft 34 = .ok (.aload_n 1, 1) := by decide +kernel
theorem dX8_windowsLeft_35 : decode cX8_windowsLeft 35 = .ok (.getfield 53, 3) := by decide +kernel
theorem dX8_windowsLeft_38 : decode cX8_windowsLeft 38 = .ok (.getfield 57, 3) := by decide +kernel
theorem dX8_windowsLeft_41 : decode cX8_windowsLeft 41 = .ok (.invokevirtual 63, 3) := by decide +kernel
theorem dX8_windowsLeft_44 : decode cX8_windowsLeft 44 = .ok (.iconst 0, 1) := by decide +kernel
theorem dX8_windowsLeft_45 : decode cX8_windowsLeft 45 = .ok (.istore 5, 2) := by decide +kernel
theorem dX8_windowsLeft_47 : decode cX8_windowsLeft 47 = .ok (.iload 5, 2) := by decide +kernel
theorem dX8_windowsLeft_49 : decode cX8_windowsLeft 49 = .ok (.bipush 40, 2) := by decide +kernel
theorem dX8_windowsLeft_51 : decode cX8_windowsLeft 51 = .ok (.if_icmp .ge 25, 3) := by decide +kernel
theorem dX8_windowsLeft_54 : decode cX8_windowsLeft 54 = .ok (.aload_n 0, 1) := by decide +kernel
theorem dX8_windowsLeft_55 : decode cX8_windowsLeft 55 = .ok (.getfield 18, 3) := by decide +kernel
theorem dX8_windowsLeft_58 : decode cX8_windowsLeft 58 = .ok (.aload_n 1, 1) := by decide +kernel
theorem dX8_windowsLeft_59 : decode cX8_windowsLeft 59 = .ok (.getfield 45, 3) := by decide +kernel
theorem dX8_windowsLeft_62 : decode cX8_windowsLeft 62 = .ok (.iload 5, 2) := by decide +kernel
theorem dX8_windowsLeft_64 : decode cX8_windowsLeft 64 = .ok (.invokevirtual 69, 3) := by decide +kernel
theorem dX8_windowsLeft_67 : decode cX8_windowsLeft 67 = .ok (.invokevirtual 72, 3) := by decide +kernel
theorem dX8_windowsLeft_70 : decode cX8_windowsLeft 70 = .ok (.iinc 5 1, 3) := by decide +kernel
theorem dX8_windowsLeft_73 : decode cX8_windowsLeft 73 = .ok (.goto (-26), 3) := by decide +kernel
theorem dX8_windowsLeft_76 : decode cX8_windowsLeft 76 = .ok (.iload_n 3, 1) := by decide +kernel
theorem dX8_windowsLeft_77 : decode cX8_windowsLeft 77 = .ok (.aload_n 0, 1) := by decide +kernel
theorem dX8_windowsLeft_78 : decode cX8_windowsLeft 78 = .ok (.iload 4, 2) := by decide +kernel
theorem dX8_windowsLeft_80 : decode cX8_windowsLeft 80 = .ok (.invokevirtual 75, 3) := by decide +kernel
theorem dX8_windowsLeft_83 : decode cX8_windowsLeft 83 = .ok (.ifCond .eq 10, 3) := by decide +kernel
theorem dX8_windowsLeft_86 : decode cX8_windowsLeft 86 = .ok (.iconst 1, 1) := by decide +kernel
theorem dX8_windowsLeft_87 : decode cX8_windowsLeft 87 = .ok (.iload 4, 2) := by decide +kernel
theorem dX8_windowsLeft_89 : decode cX8_windowsLeft 89 = .ok (.ishl, 1) := by decide +kernel
theorem dX8_windowsLeft_90 : decode cX8_windowsLeft 90 = .ok (.goto 4, 3) := by decide +kernel
theorem dX8_windowsLeft_93 : decode cX8_windowsLeft 93 = .ok (.iconst 0, 1) := by decide +kernel
theorem dX8_windowsLeft_94 : decode cX8_windowsLeft 94 = .ok (.ior, 1) := by decide +kernel
theorem dX8_windowsLeft_95 : decode cX8_windowsLeft 95 = .ok (.istore_n 3, 1) := by decide +kernel
theorem dX8_windowsLeft_96 : decode cX8_windowsLeft 96 = .ok (.iinc 4 1, 3) := by decide +kernel
theorem dX8_windowsLeft_99 : decode cX8_windowsLeft 99 = .ok (.goto (-82), 3) := by decide +kernel
theorem dX8_windowsLeft_102 : decode cX8_windowsLeft 102 = .ok (.iload_n 3, 1) := by decide +kernel
theorem dX8_windowsLeft_103 : decode cX8_windowsLeft 103 = .ok (.ireturn, 1) := by decide +kernel
abbrev MX8_windowsLeft : MI := (RX8, cX8_windowsLeft, 6, 6, false)
def lcX8_windowsLeft_1 : Ex Bool := (ltI (lvI 5) (ciI (iI 40)))
def lbX8_windowsLeft_1 : St := (forB (calS (ckV 5 1) mX5_add (agC va_rf (getR 8 1 (lvR 0)) (agC Value.int (calX decI (ckV 1 1) mX1_lengthOf (agC va_rf (getR 10 1 (lvR 1)) (agC Value.int (lvI 5) agN))) agN))) (incI 5 (iI 1)))
def lcX8_windowsLeft_2 : Ex Bool := (leI (lvI 4) (ciI (iI 16)))
def lbX8_windowsLeft_2 : St := (forB (seqS (calS (ckV 1 3) mX1_cut (agC va_rf (getR 10 1 (lvR 1)) (agC va_rf (getR 10 0 (lvR 1)) (agC Value.int (lvI 4) (agC Value.int (getI 9 10 (getR 10 10 (lvR 1))) agN))))) (seqS (scS 5 (seqS (lsI 5 (ciI (iI 0))) (whileS lcX8_windowsLeft_1 lbX8_windowsLeft_1))) (lsI 3 (orI (lvI 3) (iteX (ne0 (calX decI (ckV 8 1) mX8_isMet (agC va_rf (lvR 0) (agC Value.int (lvI 4) agN)))) (shlI (ciI (iI 1)) (lvI 4)) (ciI (iI 0))))))) (incI 4 (iI 1)))
def bX8_windowsLeft : St := (seqS (calS (ckV 10 1) mX10_layOut (agC va_rf (lvR 1) (agC Value.int (lvI 2) agN))) (seqS (calS (ckV 5 0) mX5_clear (agC va_rf (getR 8 1 (lvR 0)) agN)) (seqS (lsI 3 (ciI (iI 0))) (seqS (scS 4 (seqS (lsI 4 (ciI (iI 1))) (whileS lcX8_windowsLeft_2 lbX8_windowsLeft_2))) (retI (lvI 3))))))
theorem jX8_windowsLeft : JS MX8_windowsLeft 0 0 0 104 [] bX8_windowsLeft :=
  (JS.seq (pc1 := 5) (JS.call (pc1 := 2) (JA.r (JX.al (k := 1) rfl dX8_windowsLeft_0) (JA.i (JX.il (k := 2) rfl dX8_windowsLeft_1) JA.nil)) aX10_layOut (RunK.V (i := 36) (c := 10) (n := 1) cl10 rfl (CN nX10_layOut (by decide) (by decide)) gw1112 gw898 gw899 dX8_windowsLeft_2)) (JS.seq (pc1 := 12) (JS.call (pc1 := 9) (JA.r (JX.getR (pc1 := 6) (c := 8) (k := 1) (i := 18) (JX.al (k := 0) rfl dX8_windowsLeft_5) cl8 (by decide) rfl fk8_18 dX8_windowsLeft_6) JA.nil) aX5_clear (RunK.V (i := 42) (c := 5) (n := 0) cl5 rfl (CN nX5_clear (by decide) (by decide)) gw1113 gw209 gw210 dX8_windowsLeft_9)) (JS.seq (pc1 := 14) (JS.is (pc1 := 13) (k := 3) (JX.ic (n := 0) rfl dX8_windowsLeft_12) rfl (show 3 < 6 by decide) dX8_windowsLeft_13) (JS.seq (pc1 := 102) (JS.sc (JS.seq (pc1 := 17) (JS.is2 (pc1 := 15) (JX.ic (n := 1) rfl dX8_windowsLeft_14) (show 4 < 6 by decide) dX8_windowsLeft_15) (JS.while (l := 102) (lb := 102) (pc1 := 24) (pc2 := 99) (pc3 := 102) (CJ.le_f (tgt := 102) (pc1 := 19) (pc2 := 21) (JX.il2 dX8_windowsLeft_17) (JX.bp (n := 16) kb16 dX8_windowsLeft_19) dX8_windowsLeft_21 rfl) (JS.forb (pc1 := 96) (JS.seq (pc1 := 44) (JS.call (pc1 := 41) (JA.r (JX.getR (pc1 := 25) (c := 10) (k := 1) (i := 45) (JX.al (k := 1) rfl dX8_windowsLeft_24) cl10 (by decide) rfl fk8_45 dX8_windowsLeft_25) (JA.r (JX.getR (pc1 := 29) (c := 10) (k := 0) (i := 49) (JX.al (k := 1) rfl dX8_windowsLeft_28) cl10 (by decide) rfl fk8_49 dX8_windowsLeft_29) (JA.i (JX.il2 dX8_windowsLeft_32) (JA.i (JX.getI (pc1 := 38) (c := 9) (k := 10) (i := 57) (JX.getR (pc1 := 35) (c := 10) (k := 10) (i := 53) (JX.al (k := 1) rfl dX8_windowsLeft_34) cl10 (by decide) rfl fk8_53 dX8_windowsLeft_35) cl9 (by decide) rfl fk8_57 dX8_windowsLeft_38) JA.nil)))) aX1_cut (RunK.V (i := 63) (c := 1) (n := 3) cl1 rfl (CN nX1_cut (by decide) (by decide)) gw1114 gw926 gw927 dX8_windowsLeft_41)) (JS.seq (pc1 := 76) (JS.sc (JS.seq (pc1 := 47) (JS.is2 (pc1 := 45) (JX.ic (n := 0) rfl dX8_windowsLeft_44) (show 5 < 6 by decide) dX8_windowsLeft_45) (JS.while (l := 76) (lb := 76) (pc1 := 54) (pc2 := 73) (pc3 := 76) (CJ.lt_f (tgt := 76) (pc1 := 49) (pc2 := 51) (JX.il2 dX8_windowsLeft_47) (JX.bp (n := 40) kb40 dX8_windowsLeft_49) dX8_windowsLeft_51 rfl) (JS.forb (pc1 := 70) (JS.call (pc1 := 67) (JA.r (JX.getR (pc1 := 55) (c := 8) (k := 1) (i := 18) (JX.al (k := 0) rfl dX8_windowsLeft_54) cl8 (by decide) rfl fk8_18 dX8_windowsLeft_55) (JA.i (JX.call (pc1 := 64) decI_ok (JA.r (JX.getR (pc1 := 59) (c := 10) (k := 1) (i := 45) (JX.al (k := 1) rfl dX8_windowsLeft_58) cl10 (by decide) rfl fk8_45 dX8_windowsLeft_59) (JA.i (JX.il2 dX8_windowsLeft_62) JA.nil)) aX1_lengthOf (RunK.V (i := 69) (c := 1) (n := 1) cl1 rfl (CN nX1_lengthOf (by decide) (by decide)) gw1115 gw945 gw946 dX8_windowsLeft_64) (by decide)) JA.nil)) aX5_add (RunK.V (i := 72) (c := 5) (n := 1) cl5 rfl (CN nX5_add (by decide) (by decide)) gw1116 gw121 gw122 dX8_windowsLeft_67)) (JS.inc (n := 1) rfl (show 5 < 6 by decide) dX8_windowsLeft_70)) dX8_windowsLeft_73 rfl (Or.inl rfl) (Or.inl rfl)))) (JS.is (pc1 := 95) (k := 3) (JX.ior (pc1 := 77) (pc2 := 94) (JX.il (k := 3) rfl dX8_windowsLeft_76) (JX.ite (l := 93) (pc1 := 86) (pc2 := 90) (pc3 := 94) (lend := 94) (CJ.ne0_f (tgt := 93) (pc1 := 83) (JX.call (pc1 := 80) decI_ok (JA.r (JX.al (k := 0) rfl dX8_windowsLeft_77) (JA.i (JX.il2 dX8_windowsLeft_78) JA.nil)) aX8_isMet (RunK.V (i := 75) (c := 8) (n := 1) cl8 rfl (CN nX8_isMet (by decide) (by decide)) gw1117 gw1119 gs42 dX8_windowsLeft_80) (by decide)) dX8_windowsLeft_83 rfl) (JX.ishl (pc1 := 87) (pc2 := 89) (JX.ic (n := 1) rfl dX8_windowsLeft_86) (JX.il2 dX8_windowsLeft_87) dX8_windowsLeft_89) dX8_windowsLeft_90 rfl (JX.ic (n := 0) rfl dX8_windowsLeft_93) (Or.inl rfl)) dX8_windowsLeft_94) rfl (show 3 < 6 by decide) dX8_windowsLeft_95))) (JS.inc (n := 1) rfl (show 4 < 6 by decide) dX8_windowsLeft_96)) dX8_windowsLeft_99 rfl (Or.inl rfl) (Or.inl rfl)))) (JS.retI (pc1 := 103) (JX.il (k := 3) rfl dX8_windowsLeft_102) dX8_windowsLeft_103)))))
def mX8_windowsLeft : MS := runM 6 (some (.int)) bX8_windowsLeft
theorem aX8_windowsLeft : MA yX8_windowsLeft cX8_windowsLeft 6 (some (.int)) 6 mX8_windowsLeft := MA.of (plainFor_of_name (by decide)) jX8_windowsLeft
theorem eX8_windowsLeft (a0 : Nat) (a1 : Nat) (a2 : Int32) (h : AH) : mX8_windowsLeft [.ref a0, .ref a1, .int a2] h = (bX8_windowsLeft [.val (.ref a0), .val (.ref a1), .val (.int a2), .unset, .unset, .unset] h).bind (finM (some (.int))) := rfl
/-! PieceStore.windows -/
theorem dX11_windows_0 : decode cX11_windows 0 = .ok (.aload_n 0, 1) := by decide +kernel
theorem dX11_windows_1 : decode cX11_windows 1 = .ok (.getfield 29, 3) := by decide +kernel
theorem dX11_windows_4 : decode cX11_windows 4 = .ok (.iload_n 1, 1) := by decide +kernel
theorem dX11_windows_5 : decode cX11_windows 5 = .ok (.invokevirtual 154, 3) := by decide +kernel
theorem dX11_windows_8 : decode cX11_windows 8 = .ok (.ifCond .eq 18, 3) := by decide +kernel
theorem dX11_windows_11 : decode cX11_windows 11 = .ok (.aload_n 0, 1) := by decide +kernel
theorem dX11_windows_12 : decode cX11_windows 12 = .ok (.getfield 43, 3) := by decide +kernel
theorem dX11_windows_15 : decode cX11_windows 15 = .ok (.aload_n 0, 1) := by decide +kernel
theorem dX11_windows_16 : decode cX11_windows 16 = .ok (.getfield 29, 3) := by decide +kernel
theorem dX11_windows_19 : decode cX11_windows 19 = .ok (.iload_n 1, 1) := by decide +kernel
theorem dX11_windows_20 : decode cX11_windows 20 = .ok (.invokevirtual 270, 3) := by decide +kernel
theorem dX11_windows_23 : decode cX11_windows 23 = .ok (.goto 4, 3) := by decide +kernel
theorem dX11_windows_26 : decode cX11_windows 26 = .ok (.iconst (-1), 1) := by decide +kernel
theorem dX11_windows_27 : decode cX11_windows 27 = .ok (.ireturn, 1) := by decide +kernel
abbrev MX11_windows : MI := (RX11, cX11_windows, 2, 7, false)
def bX11_windows : St := (retI (iteX (ne0 (calX decI (ckV 10 1) mX10_hasBackup (agC va_rf (getR 11 3 (lvR 0)) (agC Value.int (lvI 1) agN)))) (calX decI (ckV 8 2) mX8_windowsLeft (agC va_rf (getR 11 5 (lvR 0)) (agC va_rf (getR 11 3 (lvR 0)) (agC Value.int (lvI 1) agN)))) (ciI (iI (-1)))))
theorem jX11_windows : JS MX11_windows 0 0 0 28 [] bX11_windows :=
  (JS.retI (pc1 := 27) (JX.ite (l := 26) (pc1 := 11) (pc2 := 23) (pc3 := 27) (lend := 27) (CJ.ne0_f (tgt := 26) (pc1 := 8) (JX.call (pc1 := 5) decI_ok (JA.r (JX.getR (pc1 := 1) (c := 11) (k := 3) (i := 29) (JX.al (k := 0) rfl dX11_windows_0) cl11 (by decide) rfl fk11_29 dX11_windows_1) (JA.i (JX.il (k := 1) rfl dX11_windows_4) JA.nil)) aX10_hasBackup (RunK.V (i := 154) (c := 10) (n := 1) cl10 rfl (CN nX10_hasBackup (by decide) (by decide)) gw808 gw771 gw772 dX11_windows_5) (by decide)) dX11_windows_8 rfl) (JX.call (pc1 := 20) decI_ok (JA.r (JX.getR (pc1 := 12) (c := 11) (k := 5) (i := 43) (JX.al (k := 0) rfl dX11_windows_11) cl11 (by decide) rfl fk11_43 dX11_windows_12) (JA.r (JX.getR (pc1 := 16) (c := 11) (k := 3) (i := 29) (JX.al (k := 0) rfl dX11_windows_15) cl11 (by decide) rfl fk11_29 dX11_windows_16) (JA.i (JX.il (k := 1) rfl dX11_windows_19) JA.nil))) aX8_windowsLeft (RunK.V (i := 270) (c := 8) (n := 2) cl8 rfl (CN nX8_windowsLeft (by decide) (by decide)) gw1108 gw1109 gw1110 dX11_windows_20) (by decide)) dX11_windows_23 rfl (JX.ic (n := (-1)) rfl dX11_windows_26) (Or.inl rfl)) dX11_windows_27)
def mX11_windows : MS := runM 2 (some (.int)) bX11_windows
theorem aX11_windows : MA yX11_windows cX11_windows 2 (some (.int)) 7 mX11_windows := MA.of (plainFor_of_name (by decide)) jX11_windows
theorem eX11_windows (a0 : Nat) (a1 : Int32) (h : AH) : mX11_windows [.ref a0, .int a1] h = (bX11_windows [.val (.ref a0), .val (.int a1)] h).bind (finM (some (.int))) := rfl
/-! Scope.worstBy -/
theorem dX8_worstBy_0 : decode cX8_worstBy 0 = .ok (.aload_n 0, 1) := by decide +kernel
theorem dX8_worstBy_1 : decode cX8_worstBy 1 = .ok (.getfield 21, 3) := by decide +kernel
theorem dX8_worstBy_4 : decode cX8_worstBy 4 = .ok (.bipush 61, 2) := by decide +kernel
theorem dX8_worstBy_6 : decode cX8_worstBy 6 = .ok (.iconst 0, 1) := by decide +kernel
theorem dX8_worstBy_7 : decode cX8_worstBy 7 = .ok (.invokevirtual 86, 3) := by decide +kernel
theorem dX8_worstBy_10 : decode cX8_worstBy 10 = .ok (.iconst 0, 1) := by decide +kernel
theorem dX8_worstBy_11 : decode cX8_worstBy 11 = .ok (.istore_n 3, 1) := by decide +kernel
theorem dX8_worstBy_12 : decode cX8_worstBy 12 = .ok (.iconst 1, 1) := by decide +kernel
theorem dX8_worstBy_13 : decode cX8_worstBy 13 = .ok (.istore 4, 2) := by decide +kernel
theorem dX8_worstBy_15 : decode cX8_worstBy 15 = .ok (.iload 4, 2) := by decide +kernel
theorem dX8_worstBy_17 : decode cX8_worstBy 17 = .ok (.bipush 16, 2) := by decide +kernel
theorem dX8_worstBy_19 : decode cX8_worstBy 19 = .ok (.if_icmp .gt 61, 3) := by decide +kernel
theorem dX8_worstBy_22 : decode cX8_worstBy 22 = .ok (.iload_n 2, 1) := by decide +kernel
theorem dX8_worstBy_23 : decode cX8_worstBy 23 = .ok (.iconst 1, 1) := by decide +kernel
theorem dX8_worstBy_24 : decode cX8_worstBy 24 = .ok (.iload 4, 2) := by decide +kernel
theorem dX8_worstBy_26 : decode cX8_worstBy 26 = .ok (.ishl, 1) := by decide +kernel
theorem dX8_worstBy_27 : decode cX8_worstBy 27 = .ok (.iand, 1) := by decide +kernel
theorem dX8_worstBy_28 : decode cX8_worstBy 28 = .ok (.ifCond .eq 46, 3) := by decide +kernel
theorem dX8_worstBy_31 : decode cX8_worstBy 31 = .ok (.aload_n 0, 1) := by decide +kernel
theorem dX8_worstBy_32 : decode cX8_worstBy 32 = .ok (.iload 4, 2) := by decide +kernel
theorem dX8_worstBy_34 : decode cX8_worstBy 34 = .ok (.iload_n 1, 1) := by decide +kernel
theorem dX8_worstBy_35 : decode cX8_worstBy 35 = .ok (.invokevirtual 79, 3) := by decide +kernel
theorem dX8_worstBy_38 : decode cX8_worstBy 38 = .ok (.istore 5, 2) := by decide +kernel
theorem dX8_worstBy_40 : decode cX8_worstBy 40 = .ok (.aload_n 0, 1) := by decide +kernel
theorem dX8_worstBy_41 : decode cX8_worstBy 41 = .ok (.getfield 21, 3) := by decide +kernel
theorem dX8_worstBy_44 : decode cX8_worstBy 44 = .ok (.iload 5, 2) := by decide +kernel
theorem dX8_worstBy_46 : decode cX8_worstBy 46 = .ok (.aload_n 0, 1) := by decide +kernel
theorem dX8_worstBy_47 : decode cX8_worstBy 47 = .ok (.getfield 21, 3) := by decide +kernel
theorem dX8_worstBy_50 : decode cX8_worstBy 50 = .ok (.iload 5, 2) := by decide +kernel
theorem dX8_worstBy_52 : decode cX8_worstBy 52 = .ok (.invokevirtual 28, 3) := by decide +kernel
theorem dX8_worstBy_55 : decode cX8_worstBy 55 = .ok (.iconst 1, 1) := by decide +kernel
theorem dX8_worstBy_56 : decode cX8_worstBy 56 = .ok (.iadd, 1) := by decide +kernel
theorem dX8_worstBy_57 : decode cX8_worstBy 57 = .ok (.invokevirtual 90, 3) := by decide +kernel
theorem dX8_worstBy_60 : decode cX8_worstBy 60 = .ok (.iload_n 3, 1) := by decide +kernel
theorem dX8_worstBy_61 : decode cX8_worstBy 61 = .ok (.aload_n 0, 1) := by decide +kernel
theorem dX8_worstBy_62 : decode cX8_worstBy 62 = .ok (.getfield 21, 3) := by decide +kernel
theorem dX8_worstBy_65 : decode cX8_worstBy 65 = .ok (.iload 5, 2) := by decide +kernel
theorem dX8_worstBy_67 : decode cX8_worstBy 67 = .ok (.invokevirtual 28, 3) := by decide +kernel
theorem dX8_worstBy_70 : decode cX8_worstBy 70 = .ok (.invokestatic 93, 3) := by decide +kernel
theorem dX8_worstBy_73 : decode cX8_worstBy 73 = .ok (.istore_n 3, 1) := by decide +kernel
theorem dX8_worstBy_74 : decode cX8_worstBy 74 = .ok (.iinc 4 1, 3) := by decide +kernel
theorem dX8_worstBy_77 : decode cX8_worstBy 77 = .ok (.goto (-62), 3) := by decide +kernel
theorem dX8_worstBy_80 : decode cX8_worstBy 80 = .ok (.iload_n 3, 1) := by decide +kernel
theorem dX8_worstBy_81 : decode cX8_worstBy 81 = .ok (.ireturn, 1) := by decide +kernel
abbrev MX8_worstBy : MI := (RX8, cX8_worstBy, 6, 4, false)
def lcX8_worstBy_1 : Ex Bool := (leI (lvI 4) (ciI (iI 16)))
def lbX8_worstBy_1 : St := (forB (ifS (ne0 (andI (lvI 2) (shlI (ciI (iI 1)) (lvI 4)))) (scS 5 (seqS (lsI 5 (calX decI (ckV 8 2) mX8_lengthBy (agC va_rf (lvR 0) (agC Value.int (lvI 4) (agC Value.int (lvI 1) agN))))) (seqS (calS (ckV 5 2) mX5_put (agC va_rf (getR 8 2 (lvR 0)) (agC Value.int (lvI 5) (agC Value.int (addI (calX decI (ckV 5 1) mX5_at (agC va_rf (getR 8 2 (lvR 0)) (agC Value.int (lvI 5) agN))) (ciI (iI 1))) agN)))) (lsI 3 (calX decI (ckS 2) mJ9_max_7cf53 (agC Value.int (lvI 3) (agC Value.int (calX decI (ckV 5 1) mX5_at (agC va_rf (getR 8 2 (lvR 0)) (agC Value.int (lvI 5) agN))) agN)))))))) (incI 4 (iI 1)))
def bX8_worstBy : St := (seqS (calS (ckV 5 2) mX5_fill (agC va_rf (getR 8 2 (lvR 0)) (agC Value.int (ciI (iI 61)) (agC Value.int (ciI (iI 0)) agN)))) (seqS (lsI 3 (ciI (iI 0))) (seqS (scS 4 (seqS (lsI 4 (ciI (iI 1))) (whileS lcX8_worstBy_1 lbX8_worstBy_1))) (retI (lvI 3)))))
theorem jX8_worstBy : JS MX8_worstBy 0 0 0 82 [] bX8_worstBy :=
  (JS.seq (pc1 := 10) (JS.call (pc1 := 7) (JA.r (JX.getR (pc1 := 1) (c := 8) (k := 2) (i := 21) (JX.al (k := 0) rfl dX8_worstBy_0) cl8 (by decide) rfl fk8_21 dX8_worstBy_1) (JA.i (JX.bp (n := 61) kb61 dX8_worstBy_4) (JA.i (JX.ic (n := 0) rfl dX8_worstBy_6) JA.nil))) aX5_fill (RunK.V (i := 86) (c := 5) (n := 2) cl5 rfl (CN nX5_fill (by decide) (by decide)) gw1137 gw200 gw201 dX8_worstBy_7)) (JS.seq (pc1 := 12) (JS.is (pc1 := 11) (k := 3) (JX.ic (n := 0) rfl dX8_worstBy_10) rfl (show 3 < 6 by decide) dX8_worstBy_11) (JS.seq (pc1 := 80) (JS.sc (JS.seq (pc1 := 15) (JS.is2 (pc1 := 13) (JX.ic (n := 1) rfl dX8_worstBy_12) (show 4 < 6 by decide) dX8_worstBy_13) (JS.while (l := 80) (lb := 80) (pc1 := 22) (pc2 := 77) (pc3 := 80) (CJ.le_f (tgt := 80) (pc1 := 17) (pc2 := 19) (JX.il2 dX8_worstBy_15) (JX.bp (n := 16) kb16 dX8_worstBy_17) dX8_worstBy_19 rfl) (JS.forb (pc1 := 74) (JS.iff (l := 74) (pc1 := 31) (CJ.ne0_f (tgt := 74) (pc1 := 28) (JX.iand (pc1 := 23) (pc2 := 27) (JX.il (k := 2) rfl dX8_worstBy_22) (JX.ishl (pc1 := 24) (pc2 := 26) (JX.ic (n := 1) rfl dX8_worstBy_23) (JX.il2 dX8_worstBy_24) dX8_worstBy_26) dX8_worstBy_27) dX8_worstBy_28 rfl) (JS.sc (JS.seq (pc1 := 40) (JS.is2 (pc1 := 38) (JX.call (pc1 := 35) decI_ok (JA.r (JX.al (k := 0) rfl dX8_worstBy_31) (JA.i (JX.il2 dX8_worstBy_32) (JA.i (JX.il (k := 1) rfl dX8_worstBy_34) JA.nil))) aX8_lengthBy (RunK.V (i := 79) (c := 8) (n := 2) cl8 rfl (CN nX8_lengthBy (by decide) (by decide)) gw1121 gw1123 gs43 dX8_worstBy_35) (by decide)) (show 5 < 6 by decide) dX8_worstBy_38) (JS.seq (pc1 := 60) (JS.call (pc1 := 57) (JA.r (JX.getR (pc1 := 41) (c := 8) (k := 2) (i := 21) (JX.al (k := 0) rfl dX8_worstBy_40) cl8 (by decide) rfl fk8_21 dX8_worstBy_41) (JA.i (JX.il2 dX8_worstBy_44) (JA.i (JX.iadd (pc1 := 55) (pc2 := 56) (JX.call (pc1 := 52) decI_ok (JA.r (JX.getR (pc1 := 47) (c := 8) (k := 2) (i := 21) (JX.al (k := 0) rfl dX8_worstBy_46) cl8 (by decide) rfl fk8_21 dX8_worstBy_47) (JA.i (JX.il2 dX8_worstBy_50) JA.nil)) aX5_at (RunK.V (i := 28) (c := 5) (n := 1) cl5 rfl (CN nX5_at (by decide) (by decide)) gw1102 gw595 gw596 dX8_worstBy_52) (by decide)) (JX.ic (n := 1) rfl dX8_worstBy_55) dX8_worstBy_56) JA.nil))) aX5_put (RunK.V (i := 90) (c := 5) (n := 2) cl5 rfl (CN nX5_put (by decide) (by decide)) gw1138 gw599 gw600 dX8_worstBy_57)) (JS.is (pc1 := 73) (k := 3) (JX.call (pc1 := 70) decI_ok (JA.i (JX.il (k := 3) rfl dX8_worstBy_60) (JA.i (JX.call (pc1 := 67) decI_ok (JA.r (JX.getR (pc1 := 62) (c := 8) (k := 2) (i := 21) (JX.al (k := 0) rfl dX8_worstBy_61) cl8 (by decide) rfl fk8_21 dX8_worstBy_62) (JA.i (JX.il2 dX8_worstBy_65) JA.nil)) aX5_at (RunK.V (i := 28) (c := 5) (n := 1) cl5 rfl (CN nX5_at (by decide) (by decide)) gw1102 gw595 gw596 dX8_worstBy_67) (by decide)) JA.nil)) aJ9_max_7cf53 (RunK.S (i := 93) (n := 2) (CN nJ9_max_7cf53 (by decide) (by decide)) gw1139 gw1083 dX8_worstBy_70) (by decide)) rfl (show 3 < 6 by decide) dX8_worstBy_73)))) (Or.inl rfl)) (JS.inc (n := 1) rfl (show 4 < 6 by decide) dX8_worstBy_74)) dX8_worstBy_77 rfl (Or.inl rfl) (Or.inl rfl)))) (JS.retI (pc1 := 81) (JX.il (k := 3) rfl dX8_worstBy_80) dX8_worstBy_81))))
def mX8_worstBy : MS := runM 6 (some (.int)) bX8_worstBy
theorem aX8_worstBy : MA yX8_worstBy cX8_worstBy 6 (some (.int)) 4 mX8_worstBy := MA.of (plainFor_of_name (by decide)) jX8_worstBy
theorem eX8_worstBy (a0 : Nat) (a1 : Int32) (a2 : Int32) (h : AH) : mX8_worstBy [.ref a0, .int a1, .int a2] h = (bX8_worstBy [.val (.ref a0), .val (.int a1), .val (.int a2), .unset, .unset, .unset] h).bind (finM (some (.int))) := rfl
/-! Scope.telling -/
theorem dX8_telling_0 : decode cX8_telling 0 = .ok (.iconst 0, 1) := by decide +kernel
theorem dX8_telling_1 : decode cX8_telling 1 = .ok (.istore_n 2, 1) := by decide +kernel
theorem dX8_telling_2 : decode cX8_telling 2 = .ok (.aload_n 0, 1) := by decide +kernel
theorem dX8_telling_3 : decode cX8_telling 3 = .ok (.iconst 0, 1) := by decide +kernel
theorem dX8_telling_4 : decode cX8_telling 4 = .ok (.iload_n 1, 1) := by decide +kernel
theorem dX8_telling_5 : decode cX8_telling 5 = .ok (.invokevirtual 83, 3) := by decide +kernel
theorem dX8_telling_8 : decode cX8_telling 8 = .ok (.istore_n 3, 1) := by decide +kernel
theorem dX8_telling_9 : decode cX8_telling 9 = .ok (.iconst 1, 1) := by decide +kernel
theorem dX8_telling_10 : decode cX8_telling 10 = .ok (.istore 4, 2) := by decide +kernel
theorem dX8_telling_12 : decode cX8_telling 12 = .ok (.iload 4, 2) := by decide +kernel
theorem dX8_telling_14 : decode cX8_telling 14 = .ok (.bipush 40, 2) := by decide +kernel
theorem dX8_telling_16 : decode cX8_telling 16 = .ok (.if_icmp .ge 30, 3) := by decide +kernel
theorem dX8_telling_19 : decode cX8_telling 19 = .ok (.aload_n 0, 1) := by decide +kernel
theorem dX8_telling_20 : decode cX8_telling 20 = .ok (.iload 4, 2) := by decide +kernel
theorem dX8_telling_22 : decode cX8_telling 22 = .ok (.iload_n 1, 1) := by decide +kernel
theorem dX8_telling_23 : decode cX8_telling 23 = .ok (.invokevirtual 83, 3) := by decide +kernel
theorem dX8_telling_26 : decode cX8_telling 26 = .ok (.istore 5, 2) := by decide +kernel
theorem dX8_telling_28 : decode cX8_telling 28 = .ok (.iload 5, 2) := by decide +kernel
theorem dX8_telling_30 : decode cX8_telling 30 = .ok (.iload_n 3, 1) := by decide +kernel
theorem dX8_telling_31 : decode cX8_telling 31 = .ok (.if_icmp .ge 9, 3) := by decide +kernel
theorem dX8_telling_34 : decode cX8_telling 34 = .ok (.iload 4, 2) := by decide +kernel
theorem dX8_telling_36 : decode cX8_telling 36 = .ok (.istore_n 2, 1) := by decide +kernel
theorem dX8_telling_37 : decode cX8_telling 37 = .ok (.iload 5, 2) := by decide +kernel
theorem dX8_telling_39 : decode cX8_telling 39 = .ok (.istore_n 3, 1) := by decide +kernel
theorem dX8_telling_40 : decode cX8_telling 40 = .ok (.iinc 4 1, 3) := by decide +kernel
theorem dX8_telling_43 : decode cX8_telling 43 = .ok (.goto (-31), 3) := by decide +kernel
theorem dX8_telling_46 : decode cX8_telling 46 = .ok (.iload_n 2, 1) := by decide +kernel
theorem dX8_telling_47 : decode cX8_telling 47 = .ok (.ireturn, 1) := by decide +kernel
abbrev MX8_telling : MI := (RX8, cX8_telling, 6, 5, false)
def lcX8_telling_1 : Ex Bool := (ltI (lvI 4) (ciI (iI 40)))
def lbX8_telling_1 : St := (forB (scS 5 (seqS (lsI 5 (calX decI (ckV 8 2) mX8_worstBy (agC va_rf (lvR 0) (agC Value.int (lvI 4) (agC Value.int (lvI 1) agN))))) (ifS (ltI (lvI 5) (lvI 3)) (seqS (lsI 2 (lvI 4)) (lsI 3 (lvI 5)))))) (incI 4 (iI 1)))
def bX8_telling : St := (seqS (lsI 2 (ciI (iI 0))) (seqS (lsI 3 (calX decI (ckV 8 2) mX8_worstBy (agC va_rf (lvR 0) (agC Value.int (ciI (iI 0)) (agC Value.int (lvI 1) agN))))) (seqS (scS 4 (seqS (lsI 4 (ciI (iI 1))) (whileS lcX8_telling_1 lbX8_telling_1))) (retI (lvI 2)))))
theorem jX8_telling : JS MX8_telling 0 0 0 48 [] bX8_telling :=
  (JS.seq (pc1 := 2) (JS.is (pc1 := 1) (k := 2) (JX.ic (n := 0) rfl dX8_telling_0) rfl (show 2 < 6 by decide) dX8_telling_1) (JS.seq (pc1 := 9) (JS.is (pc1 := 8) (k := 3) (JX.call (pc1 := 5) decI_ok (JA.r (JX.al (k := 0) rfl dX8_telling_2) (JA.i (JX.ic (n := 0) rfl dX8_telling_3) (JA.i (JX.il (k := 1) rfl dX8_telling_4) JA.nil))) aX8_worstBy (RunK.V (i := 83) (c := 8) (n := 2) cl8 rfl (CN nX8_worstBy (by decide) (by decide)) gw1133 gw1134 gw1135 dX8_telling_5) (by decide)) rfl (show 3 < 6 by decide) dX8_telling_8) (JS.seq (pc1 := 46) (JS.sc (JS.seq (pc1 := 12) (JS.is2 (pc1 := 10) (JX.ic (n := 1) rfl dX8_telling_9) (show 4 < 6 by decide) dX8_telling_10) (JS.while (l := 46) (lb := 46) (pc1 := 19) (pc2 := 43) (pc3 := 46) (CJ.lt_f (tgt := 46) (pc1 := 14) (pc2 := 16) (JX.il2 dX8_telling_12) (JX.bp (n := 40) kb40 dX8_telling_14) dX8_telling_16 rfl) (JS.forb (pc1 := 40) (JS.sc (JS.seq (pc1 := 28) (JS.is2 (pc1 := 26) (JX.call (pc1 := 23) decI_ok (JA.r (JX.al (k := 0) rfl dX8_telling_19) (JA.i (JX.il2 dX8_telling_20) (JA.i (JX.il (k := 1) rfl dX8_telling_22) JA.nil))) aX8_worstBy (RunK.V (i := 83) (c := 8) (n := 2) cl8 rfl (CN nX8_worstBy (by decide) (by decide)) gw1133 gw1134 gw1135 dX8_telling_23) (by decide)) (show 5 < 6 by decide) dX8_telling_26) (JS.iff (l := 40) (pc1 := 34) (CJ.lt_f (tgt := 40) (pc1 := 30) (pc2 := 31) (JX.il2 dX8_telling_28) (JX.il (k := 3) rfl dX8_telling_30) dX8_telling_31 rfl) (JS.seq (pc1 := 37) (JS.is (pc1 := 36) (k := 2) (JX.il2 dX8_telling_34) rfl (show 2 < 6 by decide) dX8_telling_36) (JS.is (pc1 := 39) (k := 3) (JX.il2 dX8_telling_37) rfl (show 3 < 6 by decide) dX8_telling_39)) (Or.inl rfl)))) (JS.inc (n := 1) rfl (show 4 < 6 by decide) dX8_telling_40)) dX8_telling_43 rfl (Or.inl rfl) (Or.inl rfl)))) (JS.retI (pc1 := 47) (JX.il (k := 2) rfl dX8_telling_46) dX8_telling_47))))
def mX8_telling : MS := runM 6 (some (.int)) bX8_telling
theorem aX8_telling : MA yX8_telling cX8_telling 6 (some (.int)) 5 mX8_telling := MA.of (plainFor_of_name (by decide)) jX8_telling
theorem eX8_telling (a0 : Nat) (a1 : Int32) (h : AH) : mX8_telling [.ref a0, .int a1] h = (bX8_telling [.val (.ref a0), .val (.int a1), .unset, .unset, .unset, .unset] h).bind (finM (some (.int))) := rfl
/-! PieceStore.tells -/
theorem dX11_tells_0 : decode cX11_tells 0 = .ok (.aload_n 0, 1) := by decide +kernel
theorem dX11_tells_1 : decode cX11_tells 1 = .ok (.getfield 29, 3) := by decide +kernel
theorem dX11_tells_4 : decode cX11_tells 4 = .ok (.iload_n 1, 1) := by decide +kernel
theorem dX11_tells_5 : decode cX11_tells 5 = .ok (.invokevirtual 154, 3) := by decide +kernel
theorem dX11_tells_8 : decode cX11_tells 8 = .ok (.ifCond .eq 12, 3) := by decide +kernel
theorem dX11_tells_11 : decode cX11_tells 11 = .ok (.iload_n 2, 1) := by decide +kernel
theorem dX11_tells_12 : decode cX11_tells 12 = .ok (.ifCond .lt 8, 3) := by decide +kernel
theorem dX11_tells_15 : decode cX11_tells 15 = .ok (.iload_n 2, 1) := by decide +kernel
theorem dX11_tells_16 : decode cX11_tells 16 = .ok (.iconst 1, 1) := by decide +kernel
theorem dX11_tells_17 : decode cX11_tells 17 = .ok (.if_icmp .le 5, 3) := by decide +kernel
theorem dX11_tells_20 : decode cX11_tells 20 = .ok (.iconst (-1), 1) := by decide +kernel
theorem dX11_tells_21 : decode cX11_tells 21 = .ok (.ireturn, 1) := by decide +kernel
theorem dX11_tells_22 : decode cX11_tells 22 = .ok (.aload_n 0, 1) := by decide +kernel
theorem dX11_tells_23 : decode cX11_tells 23 = .ok (.getfield 43, 3) := by decide +kernel
theorem dX11_tells_26 : decode cX11_tells 26 = .ok (.aload_n 0, 1) := by decide +kernel
theorem dX11_tells_27 : decode cX11_tells 27 = .ok (.getfield 29, 3) := by decide +kernel
theorem dX11_tells_30 : decode cX11_tells 30 = .ok (.iload_n 1, 1) := by decide +kernel
theorem dX11_tells_31 : decode cX11_tells 31 = .ok (.invokevirtual 270, 3) := by decide +kernel
theorem dX11_tells_34 : decode cX11_tells 34 = .ok (.istore_n 3, 1) := by decide +kernel
theorem dX11_tells_35 : decode cX11_tells 35 = .ok (.iload_n 3, 1) := by decide +kernel
theorem dX11_tells_36 : decode cX11_tells 36 = .ok (.ifCond .ne 5, 3) := by decide +kernel
theorem dX11_tells_39 : decode cX11_tells 39 = .ok (.iconst (-1), 1) := by decide +kernel
theorem dX11_tells_40 : decode cX11_tells 40 = .ok (.ireturn, 1) := by decide +kernel
theorem dX11_tells_41 : decode cX11_tells 41 = .ok (.aload_n 0, 1) := by decide +kernel
theorem dX11_tells_42 : decode cX11_tells 42 = .ok (.getfield 43, 3) := by decide +kernel
theorem dX11_tells_45 : decode cX11_tells 45 = .ok (.iload_n 3, 1) := by decide +kernel
theorem dX11_tells_46 : decode cX11_tells 46 = .ok (.invokevirtual 274, 3) := by decide +kernel
theorem dX11_tells_49 : decode cX11_tells 49 = .ok (.istore 4, 2) := by decide +kernel
theorem dX11_tells_51 : decode cX11_tells 51 = .ok (.iload_n 2, 1) := by decide +kernel
theorem dX11_tells_52 : decode cX11_tells 52 = .ok (.ifCond .ne 8, 3) := by decide +kernel
theorem dX11_tells_55 : decode cX11_tells 55 = .ok (.iload 4, 2) := by decide +kernel
theorem dX11_tells_57 : decode cX11_tells 57 = .ok (.goto 13, 3) := by decide +kernel
theorem dX11_tells_60 : decode cX11_tells 60 = .ok (.aload_n 0, 1) := by decide +kernel
theorem dX11_tells_61 : decode cX11_tells 61 = .ok (.getfield 43, 3) := by decide +kernel
theorem dX11_tells_64 : decode cX11_tells 64 = .ok (.iload 4, 2) := by decide +kernel
theorem dX11_tells_66 : decode cX11_tells 66 = .ok (.iload_n 3, 1) := by decide +kernel
theorem dX11_tells_67 : decode cX11_tells 67 = .ok (.invokevirtual 277, 3) := by decide +kernel
theorem dX11_tells_70 : decode cX11_tells 70 = .ok (.ireturn, 1) := by decide +kernel
abbrev MX11_tells : MI := (RX11, cX11_tells, 5, 7, false)
def bX11_tells : St := (seqS (ifS (orX (orX (notX (ne0 (calX decI (ckV 10 1) mX10_hasBackup (agC va_rf (getR 11 3 (lvR 0)) (agC Value.int (lvI 1) agN))))) (lt0 (lvI 2))) (gtI (lvI 2) (ciI (iI 1)))) (retI (ciI (iI (-1))))) (seqS (lsI 3 (calX decI (ckV 8 2) mX8_windowsLeft (agC va_rf (getR 11 5 (lvR 0)) (agC va_rf (getR 11 3 (lvR 0)) (agC Value.int (lvI 1) agN))))) (seqS (ifS (eq0 (lvI 3)) (retI (ciI (iI (-1))))) (seqS (lsI 4 (calX decI (ckV 8 1) mX8_telling (agC va_rf (getR 11 5 (lvR 0)) (agC Value.int (lvI 3) agN)))) (retI (iteX (eq0 (lvI 2)) (lvI 4) (calX decI (ckV 8 2) mX8_worstBy (agC va_rf (getR 11 5 (lvR 0)) (agC Value.int (lvI 4) (agC Value.int (lvI 3) agN))))))))))
theorem jX11_tells : JS MX11_tells 0 0 0 71 [] bX11_tells :=
  (JS.seq (pc1 := 22) (JS.iff (l := 22) (pc1 := 20) (CJ.or_f (l := 20) (pc1 := 15) (CJ.or_t (pc1 := 11) (CJ.not_t (CJ.ne0_f (tgt := 20) (pc1 := 8) (JX.call (pc1 := 5) decI_ok (JA.r (JX.getR (pc1 := 1) (c := 11) (k := 3) (i := 29) (JX.al (k := 0) rfl dX11_tells_0) cl11 (by decide) rfl fk11_29 dX11_tells_1) (JA.i (JX.il (k := 1) rfl dX11_tells_4) JA.nil)) aX10_hasBackup (RunK.V (i := 154) (c := 10) (n := 1) cl10 rfl (CN nX10_hasBackup (by decide) (by decide)) gw808 gw771 gw772 dX11_tells_5) (by decide)) dX11_tells_8 rfl)) (CJ.lt0_t (tgt := 20) (pc1 := 12) (JX.il (k := 2) rfl dX11_tells_11) dX11_tells_12 rfl)) (CJ.gt_f (tgt := 22) (pc1 := 16) (pc2 := 17) (JX.il (k := 2) rfl dX11_tells_15) (JX.ic (n := 1) rfl dX11_tells_16) dX11_tells_17 rfl) (Or.inl rfl)) (JS.retI (pc1 := 21) (JX.ic (n := (-1)) rfl dX11_tells_20) dX11_tells_21) (Or.inl rfl)) (JS.seq (pc1 := 35) (JS.is (pc1 := 34) (k := 3) (JX.call (pc1 := 31) decI_ok (JA.r (JX.getR (pc1 := 23) (c := 11) (k := 5) (i := 43) (JX.al (k := 0) rfl dX11_tells_22) cl11 (by decide) rfl fk11_43 dX11_tells_23) (JA.r (JX.getR (pc1 := 27) (c := 11) (k := 3) (i := 29) (JX.al (k := 0) rfl dX11_tells_26) cl11 (by decide) rfl fk11_29 dX11_tells_27) (JA.i (JX.il (k := 1) rfl dX11_tells_30) JA.nil))) aX8_windowsLeft (RunK.V (i := 270) (c := 8) (n := 2) cl8 rfl (CN nX8_windowsLeft (by decide) (by decide)) gw1108 gw1109 gw1110 dX11_tells_31) (by decide)) rfl (show 3 < 5 by decide) dX11_tells_34) (JS.seq (pc1 := 41) (JS.iff (l := 41) (pc1 := 39) (CJ.eq0_f (tgt := 41) (pc1 := 36) (JX.il (k := 3) rfl dX11_tells_35) dX11_tells_36 rfl) (JS.retI (pc1 := 40) (JX.ic (n := (-1)) rfl dX11_tells_39) dX11_tells_40) (Or.inl rfl)) (JS.seq (pc1 := 51) (JS.is2 (pc1 := 49) (JX.call (pc1 := 46) decI_ok (JA.r (JX.getR (pc1 := 42) (c := 11) (k := 5) (i := 43) (JX.al (k := 0) rfl dX11_tells_41) cl11 (by decide) rfl fk11_43 dX11_tells_42) (JA.i (JX.il (k := 3) rfl dX11_tells_45) JA.nil)) aX8_telling (RunK.V (i := 274) (c := 8) (n := 1) cl8 rfl (CN nX8_telling (by decide) (by decide)) gw1129 gw1130 gw1131 dX11_tells_46) (by decide)) (show 4 < 5 by decide) dX11_tells_49) (JS.retI (pc1 := 70) (JX.ite (l := 60) (pc1 := 55) (pc2 := 57) (pc3 := 70) (lend := 70) (CJ.eq0_f (tgt := 60) (pc1 := 52) (JX.il (k := 2) rfl dX11_tells_51) dX11_tells_52 rfl) (JX.il2 dX11_tells_55) dX11_tells_57 rfl (JX.call (pc1 := 67) decI_ok (JA.r (JX.getR (pc1 := 61) (c := 11) (k := 5) (i := 43) (JX.al (k := 0) rfl dX11_tells_60) cl11 (by decide) rfl fk11_43 dX11_tells_61) (JA.i (JX.il2 dX11_tells_64) (JA.i (JX.il (k := 3) rfl dX11_tells_66) JA.nil))) aX8_worstBy (RunK.V (i := 277) (c := 8) (n := 2) cl8 rfl (CN nX8_worstBy (by decide) (by decide)) gw1140 gw1134 gw1135 dX11_tells_67) (by decide)) (Or.inl rfl)) dX11_tells_70)))))
def mX11_tells : MS := runM 5 (some (.int)) bX11_tells
theorem aX11_tells : MA yX11_tells cX11_tells 5 (some (.int)) 7 mX11_tells := MA.of (plainFor_of_name (by decide)) jX11_tells
theorem eX11_tells (a0 : Nat) (a1 : Int32) (a2 : Int32) (h : AH) : mX11_tells [.ref a0, .int a1, .int a2] h = (bX11_tells [.val (.ref a0), .val (.int a1), .val (.int a2), .unset, .unset] h).bind (finM (some (.int))) := rfl
/-! Vault.freeNumber -/
theorem dX10_freeNumber_0 : decode cX10_freeNumber 0 = .ok (.aload_n 0, 1) := by decide +kernel
theorem dX10_freeNumber_1 : decode cX10_freeNumber 1 = .ok (.getfield 64, 3) := by decide +kernel
theorem dX10_freeNumber_4 : decode cX10_freeNumber 4 = .ok (.getfield 111, 3) := by decide +kernel
theorem dX10_freeNumber_7 : decode cX10_freeNumber 7 = .ok (.iconst 0, 1) := by decide +kernel
theorem dX10_freeNumber_8 : decode cX10_freeNumber 8 = .ok (.invokevirtual 247, 3) := by decide +kernel
theorem dX10_freeNumber_11 : decode cX10_freeNumber 11 = .ok (.ireturn, 1) := by decide +kernel
abbrev MX10_freeNumber : MI := (RX10, cX10_freeNumber, 1, 3, false)
def bX10_freeNumber : St := (retI (calX decI (ckV 5 1) mX5_indexOf (agC va_rf (getR 9 9 (getR 10 10 (lvR 0))) (agC Value.int (ciI (iI 0)) agN))))
theorem jX10_freeNumber : JS MX10_freeNumber 0 0 0 12 [] bX10_freeNumber :=
  (JS.retI (pc1 := 11) (JX.call (pc1 := 8) decI_ok (JA.r (JX.getR (pc1 := 4) (c := 9) (k := 9) (i := 111) (JX.getR (pc1 := 1) (c := 10) (k := 10) (i := 64) (JX.al (k := 0) rfl dX10_freeNumber_0) cl10 (by decide) rfl fk10_64 dX10_freeNumber_1) cl9 (by decide) rfl fk10_111 dX10_freeNumber_4) (JA.i (JX.ic (n := 0) rfl dX10_freeNumber_7) JA.nil)) aX5_indexOf (RunK.V (i := 247) (c := 5) (n := 1) cl5 rfl (CN nX5_indexOf (by decide) (by decide)) gw1153 gw649 gw650 dX10_freeNumber_8) (by decide)) dX10_freeNumber_11)
def mX10_freeNumber : MS := runM 1 (some (.int)) bX10_freeNumber
theorem aX10_freeNumber : MA yX10_freeNumber cX10_freeNumber 1 (some (.int)) 3 mX10_freeNumber := MA.of (plainFor_of_name (by decide)) jX10_freeNumber
theorem eX10_freeNumber (a0 : Nat) (h : AH) : mX10_freeNumber [.ref a0] h = (bX10_freeNumber [.val (.ref a0)] h).bind (finM (some (.int))) := rfl
/-! Vault.canSave -/
theorem dX10_canSave_0 : decode cX10_canSave 0 = .ok (.aload_n 0, 1) := by decide +kernel
theorem dX10_canSave_1 : decode cX10_canSave 1 = .ok (.getfield 21, 3) := by decide +kernel
theorem dX10_canSave_4 : decode cX10_canSave 4 = .ok (.invokevirtual 171, 3) := by decide +kernel
theorem dX10_canSave_7 : decode cX10_canSave 7 = .ok (.istore_n 1, 1) := by decide +kernel
theorem dX10_canSave_8 : decode cX10_canSave 8 = .ok (.aload_n 0, 1) := by decide +kernel
theorem dX10_canSave_9 : decode cX10_canSave 9 = .ok (.invokevirtual 250, 3) := by decide +kernel
theorem dX10_canSave_12 : decode cX10_canSave 12 = .ok (.iconst (-1), 1) := by decide +kernel
theorem dX10_canSave_13 : decode cX10_canSave 13 = .ok (.if_icmp .eq 82, 3) := by decide +kernel
theorem dX10_canSave_16 : decode cX10_canSave 16 = .ok (.aload_n 0, 1) := by decide +kernel
theorem dX10_canSave_17 : decode cX10_canSave 17 = .ok (.getfield 64, 3) := by decide +kernel
theorem dX10_canSave_20 : decode cX10_canSave 20 = .ok (.getfield 121, 3) := by decide +kernel
theorem dX10_canSave_23 : decode cX10_canSave 23 = .ok (.invokevirtual 157, 3) := by decide +kernel
theorem dX10_canSave_26 : decode cX10_canSave 26 = .ok (.iload_n 1, 1) := by decide +kernel
theorem dX10_canSave_27 : decode cX10_canSave 27 = .ok (.iadd, 1) := by decide +kernel
theorem dX10_canSave_28 : decode cX10_canSave 28 = .ok (.sipush 300, 3) := by decide +kernel
theorem dX10_canSave_31 : decode cX10_canSave 31 = .ok (.if_icmp .gt 64, 3) := by decide +kernel
theorem dX10_canSave_34 : decode cX10_canSave 34 = .ok (.aload_n 0, 1) := by decide +kernel
theorem dX10_canSave_35 : decode cX10_canSave 35 = .ok (.getfield 28, 3) := by decide +kernel
theorem dX10_canSave_38 : decode cX10_canSave 38 = .ok (.getfield 253, 3) := by decide +kernel
theorem dX10_canSave_41 : decode cX10_canSave 41 = .ok (.invokevirtual 157, 3) := by decide +kernel
theorem dX10_canSave_44 : decode cX10_canSave 44 = .ok (.aload_n 0, 1) := by decide +kernel
theorem dX10_canSave_45 : decode cX10_canSave 45 = .ok (.getfield 21, 3) := by decide +kernel
theorem dX10_canSave_48 : decode cX10_canSave 48 = .ok (.getfield 140, 3) := by decide +kernel
theorem dX10_canSave_51 : decode cX10_canSave 51 = .ok (.invokevirtual 157, 3) := by decide +kernel
theorem dX10_canSave_54 : decode cX10_canSave 54 = .ok (.iadd, 1) := by decide +kernel
theorem dX10_canSave_55 : decode cX10_canSave 55 = .ok (.sipush 16384, 3) := by decide +kernel
theorem dX10_canSave_58 : decode cX10_canSave 58 = .ok (.if_icmp .gt 37, 3) := by decide +kernel
theorem dX10_canSave_61 : decode cX10_canSave 61 = .ok (.aload_n 0, 1) := by decide +kernel
theorem dX10_canSave_62 : decode cX10_canSave 62 = .ok (.getfield 42, 3) := by decide +kernel
theorem dX10_canSave_65 : decode cX10_canSave 65 = .ok (.invokevirtual 157, 3) := by decide +kernel
theorem dX10_canSave_68 : decode cX10_canSave 68 = .ok (.iload_n 1, 1) := by decide +kernel
theorem dX10_canSave_69 : decode cX10_canSave 69 = .ok (.iadd, 1) := by decide +kernel
theorem dX10_canSave_70 : decode cX10_canSave 70 = .ok (.sipush 16384, 3) := by decide +kernel
theorem dX10_canSave_73 : decode cX10_canSave 73 = .ok (.if_icmp .gt 22, 3) := by decide +kernel
theorem dX10_canSave_76 : decode cX10_canSave 76 = .ok (.aload_n 0, 1) := by decide +kernel
theorem dX10_canSave_77 : decode cX10_canSave 77 = .ok (.getfield 49, 3) := by decide +kernel
theorem dX10_canSave_80 : decode cX10_canSave 80 = .ok (.invokevirtual 157, 3) := by decide +kernel
theorem dX10_canSave_83 : decode cX10_canSave 83 = .ok (.iload_n 1, 1) := by decide +kernel
theorem dX10_canSave_84 : decode cX10_canSave 84 = .ok (.iadd, 1) := by decide +kernel
theorem dX10_canSave_85 : decode cX10_canSave 85 = .ok (.sipush 16384, 3) := by decide +kernel
theorem dX10_canSave_88 : decode cX10_canSave 88 = .ok (.if_icmp .gt 7, 3) := by decide +kernel
theorem dX10_canSave_91 : decode cX10_canSave 91 = .ok (.iconst 1, 1) := by decide +kernel
theorem dX10_canSave_92 : decode cX10_canSave 92 = .ok (.goto 4, 3) := by decide +kernel
theorem dX10_canSave_95 : decode cX10_canSave 95 = .ok (.iconst 0, 1) := by decide +kernel
theorem dX10_canSave_96 : decode cX10_canSave 96 = .ok (.ireturn, 1) := by decide +kernel
abbrev MX10_canSave : MI := (RX10, cX10_canSave, 2, 4, false)
def bX10_canSave : St := (seqS (lsI 1 (calX decI (ckV 1 0) mX1_count (agC va_rf (getR 10 1 (lvR 0)) agN))) (retI (iteX (andX (andX (andX (andX (neI (calX decI (ckV 10 0) mX10_freeNumber (agC va_rf (lvR 0) agN)) (ciI (iI (-1)))) (leI (addI (calX decI (ckV 5 0) mX5_size (agC va_rf (getR 9 0 (getR 10 10 (lvR 0))) agN)) (lvI 1)) (ciI (iI 300)))) (leI (addI (calX decI (ckV 5 0) mX5_size (agC va_rf (getR 3 0 (getR 10 2 (lvR 0))) agN)) (calX decI (ckV 5 0) mX5_size (agC va_rf (getR 1 0 (getR 10 1 (lvR 0))) agN))) (ciI (iI 16384)))) (leI (addI (calX decI (ckV 5 0) mX5_size (agC va_rf (getR 10 4 (lvR 0)) agN)) (lvI 1)) (ciI (iI 16384)))) (leI (addI (calX decI (ckV 5 0) mX5_size (agC va_rf (getR 10 6 (lvR 0)) agN)) (lvI 1)) (ciI (iI 16384)))) (ciI (iI 1)) (ciI (iI 0)))))
theorem jX10_canSave : JS MX10_canSave 0 0 0 97 [] bX10_canSave :=
  (JS.seq (pc1 := 8) (JS.is (pc1 := 7) (k := 1) (JX.call (pc1 := 4) decI_ok (JA.r (JX.getR (pc1 := 1) (c := 10) (k := 1) (i := 21) (JX.al (k := 0) rfl dX10_canSave_0) cl10 (by decide) rfl fk10_21 dX10_canSave_1) JA.nil) aX1_count (RunK.V (i := 171) (c := 1) (n := 0) cl1 rfl (CN nX1_count (by decide) (by decide)) gw968 gw941 gw942 dX10_canSave_4) (by decide)) rfl (show 1 < 2 by decide) dX10_canSave_7) (JS.retI (pc1 := 96) (JX.ite (l := 95) (pc1 := 91) (pc2 := 92) (pc3 := 96) (lend := 96) (CJ.and_f (pc1 := 76) (CJ.and_f (pc1 := 61) (CJ.and_f (pc1 := 34) (CJ.and_f (pc1 := 16) (CJ.ne_f (tgt := 95) (pc1 := 12) (pc2 := 13) (JX.call (pc1 := 9) decI_ok (JA.r (JX.al (k := 0) rfl dX10_canSave_8) JA.nil) aX10_freeNumber (RunK.V (i := 250) (c := 10) (n := 0) cl10 rfl (CN nX10_freeNumber (by decide) (by decide)) gw1149 gw1151 gs44 dX10_canSave_9) (by decide)) (JX.ic (n := (-1)) rfl dX10_canSave_12) dX10_canSave_13 rfl) (CJ.le_f (tgt := 95) (pc1 := 28) (pc2 := 31) (JX.iadd (pc1 := 26) (pc2 := 27) (JX.call (pc1 := 23) decI_ok (JA.r (JX.getR (pc1 := 20) (c := 9) (k := 0) (i := 121) (JX.getR (pc1 := 17) (c := 10) (k := 10) (i := 64) (JX.al (k := 0) rfl dX10_canSave_16) cl10 (by decide) rfl fk10_64 dX10_canSave_17) cl9 (by decide) rfl fk10_121 dX10_canSave_20) JA.nil) aX5_size (RunK.V (i := 157) (c := 5) (n := 0) cl5 rfl (CN nX5_size (by decide) (by decide)) gw788 gw587 gw588 dX10_canSave_23) (by decide)) (JX.il (k := 1) rfl dX10_canSave_26) dX10_canSave_27) (JX.sp (n := 300) ks300 dX10_canSave_28) dX10_canSave_31 rfl)) (CJ.le_f (tgt := 95) (pc1 := 55) (pc2 := 58) (JX.iadd (pc1 := 44) (pc2 := 54) (JX.call (pc1 := 41) decI_ok (JA.r (JX.getR (pc1 := 38) (c := 3) (k := 0) (i := 253) (JX.getR (pc1 := 35) (c := 10) (k := 2) (i := 28) (JX.al (k := 0) rfl dX10_canSave_34) cl10 (by decide) rfl fk10_28 dX10_canSave_35) cl3 (by decide) rfl fk10_253 dX10_canSave_38) JA.nil) aX5_size (RunK.V (i := 157) (c := 5) (n := 0) cl5 rfl (CN nX5_size (by decide) (by decide)) gw788 gw587 gw588 dX10_canSave_41) (by decide)) (JX.call (pc1 := 51) decI_ok (JA.r (JX.getR (pc1 := 48) (c := 1) (k := 0) (i := 140) (JX.getR (pc1 := 45) (c := 10) (k := 1) (i := 21) (JX.al (k := 0) rfl dX10_canSave_44) cl10 (by decide) rfl fk10_21 dX10_canSave_45) cl1 (by decide) rfl fk10_140 dX10_canSave_48) JA.nil) aX5_size (RunK.V (i := 157) (c := 5) (n := 0) cl5 rfl (CN nX5_size (by decide) (by decide)) gw788 gw587 gw588 dX10_canSave_51) (by decide)) dX10_canSave_54) (JX.sp (n := 16384) ks16384 dX10_canSave_55) dX10_canSave_58 rfl)) (CJ.le_f (tgt := 95) (pc1 := 70) (pc2 := 73) (JX.iadd (pc1 := 68) (pc2 := 69) (JX.call (pc1 := 65) decI_ok (JA.r (JX.getR (pc1 := 62) (c := 10) (k := 4) (i := 42) (JX.al (k := 0) rfl dX10_canSave_61) cl10 (by decide) rfl fk10_42 dX10_canSave_62) JA.nil) aX5_size (RunK.V (i := 157) (c := 5) (n := 0) cl5 rfl (CN nX5_size (by decide) (by decide)) gw788 gw587 gw588 dX10_canSave_65) (by decide)) (JX.il (k := 1) rfl dX10_canSave_68) dX10_canSave_69) (JX.sp (n := 16384) ks16384 dX10_canSave_70) dX10_canSave_73 rfl)) (CJ.le_f (tgt := 95) (pc1 := 85) (pc2 := 88) (JX.iadd (pc1 := 83) (pc2 := 84) (JX.call (pc1 := 80) decI_ok (JA.r (JX.getR (pc1 := 77) (c := 10) (k := 6) (i := 49) (JX.al (k := 0) rfl dX10_canSave_76) cl10 (by decide) rfl fk10_49 dX10_canSave_77) JA.nil) aX5_size (RunK.V (i := 157) (c := 5) (n := 0) cl5 rfl (CN nX5_size (by decide) (by decide)) gw788 gw587 gw588 dX10_canSave_80) (by decide)) (JX.il (k := 1) rfl dX10_canSave_83) dX10_canSave_84) (JX.sp (n := 16384) ks16384 dX10_canSave_85) dX10_canSave_88 rfl)) (JX.ic (n := 1) rfl dX10_canSave_91) dX10_canSave_92 rfl (JX.ic (n := 0) rfl dX10_canSave_95) (Or.inl rfl)) dX10_canSave_96))
def mX10_canSave : MS := runM 2 (some (.boolean)) bX10_canSave
theorem aX10_canSave : MA yX10_canSave cX10_canSave 2 (some (.boolean)) 4 mX10_canSave := MA.of (plainFor_of_name (by decide)) jX10_canSave
theorem eX10_canSave (a0 : Nat) (h : AH) : mX10_canSave [.ref a0] h = (bX10_canSave [.val (.ref a0), .unset] h).bind (finM (some (.boolean))) := rfl
/-! Saver.countHooks -/
theorem dX7_countHooks_0 : decode cX7_countHooks 0 = .ok (.iconst 0, 1) := by decide +kernel
theorem dX7_countHooks_1 : decode cX7_countHooks 1 = .ok (.istore_n 2, 1) := by decide +kernel
theorem dX7_countHooks_2 : decode cX7_countHooks 2 = .ok (.iconst 0, 1) := by decide +kernel
theorem dX7_countHooks_3 : decode cX7_countHooks 3 = .ok (.istore_n 3, 1) := by decide +kernel
theorem dX7_countHooks_4 : decode cX7_countHooks 4 = .ok (.iload_n 3, 1) := by decide +kernel
theorem dX7_countHooks_5 : decode cX7_countHooks 5 = .ok (.aload_n 0, 1) := by decide +kernel
theorem dX7_countHooks_6 : decode cX7_countHooks 6 = .ok (.getfield 27, 3) := by decide +kernel
theorem dX7_countHooks_9 : decode cX7_countHooks 9 = .ok (.invokevirtual 38, 3) := by decide +kernel
theorem dX7_countHooks_12 : decode cX7_countHooks 12 = .ok (.if_icmp .ge 29, 3) := by decide +kernel
theorem dX7_countHooks_15 : decode cX7_countHooks 15 = .ok (.iload_n 2, 1) := by decide +kernel
theorem dX7_countHooks_16 : decode cX7_countHooks 16 = .ok (.aload_n 0, 1) := by decide +kernel
theorem dX7_countHooks_17 : decode cX7_countHooks 17 = .ok (.getfield 27, 3) := by decide +kernel
theorem dX7_countHooks_20 : decode cX7_countHooks 20 = .ok (.iload_n 3, 1) := by decide +kernel
theorem dX7_countHooks_21 : decode cX7_countHooks 21 = .ok (.invokevirtual 74, 3) := by decide +kernel
theorem dX7_countHooks_24 : decode cX7_countHooks 24 = .ok (.iload_n 1, 1) := by decide +kernel
theorem dX7_countHooks_25 : decode cX7_countHooks 25 = .ok (.if_icmp .ne 7, 3) := by decide +kernel
theorem dX7_countHooks_28 : decode cX7_countHooks 28 = .ok (.iconst 1, 1) := by decide +kernel
theorem dX7_countHooks_29 : decode cX7_countHooks 29 = .ok (.goto 4, 3) := by decide +kernel
theorem dX7_countHooks_32 : decode cX7_countHooks 32 = .ok (.iconst 0, 1) := by decide +kernel
theorem dX7_countHooks_33 : decode cX7_countHooks 33 = .ok (.iadd, 1) := by decide +kernel
theorem dX7_countHooks_34 : decode cX7_countHooks 34 = .ok (.istore_n 2, 1) := by decide +kernel
theorem dX7_countHooks_35 : decode cX7_countHooks 35 = .ok (.iinc 3 1, 3) := by decide +kernel
theorem dX7_countHooks_38 : decode cX7_countHooks 38 = .ok (.goto (-34), 3) := by decide +kernel
theorem dX7_countHooks_41 : decode cX7_countHooks 41 = .ok (.iload_n 2, 1) := by decide +kernel
theorem dX7_countHooks_42 : decode cX7_countHooks 42 = .ok (.ireturn, 1) := by decide +kernel
abbrev MX7_countHooks : MI := (RX7, cX7_countHooks, 4, 2, false)
def lcX7_countHooks_1 : Ex Bool := (ltI (lvI 3) (calX decI (ckV 5 0) mX5_size (agC va_rf (getR 7 4 (lvR 0)) agN)))
def lbX7_countHooks_1 : St := (forB (lsI 2 (addI (lvI 2) (iteX (eqI (calX decI (ckV 5 1) mX5_at (agC va_rf (getR 7 4 (lvR 0)) (agC Value.int (lvI 3) agN))) (lvI 1)) (ciI (iI 1)) (ciI (iI 0))))) (incI 3 (iI 1)))
def bX7_countHooks : St := (seqS (lsI 2 (ciI (iI 0))) (seqS (scS 3 (seqS (lsI 3 (ciI (iI 0))) (whileS lcX7_countHooks_1 lbX7_countHooks_1))) (retI (lvI 2))))
theorem jX7_countHooks : JS MX7_countHooks 0 0 0 43 [] bX7_countHooks :=
  (JS.seq (pc1 := 2) (JS.is (pc1 := 1) (k := 2) (JX.ic (n := 0) rfl dX7_countHooks_0) rfl (show 2 < 4 by decide) dX7_countHooks_1) (JS.seq (pc1 := 41) (JS.sc (JS.seq (pc1 := 4) (JS.is (pc1 := 3) (k := 3) (JX.ic (n := 0) rfl dX7_countHooks_2) rfl (show 3 < 4 by decide) dX7_countHooks_3) (JS.while (l := 41) (lb := 41) (pc1 := 15) (pc2 := 38) (pc3 := 41) (CJ.lt_f (tgt := 41) (pc1 := 5) (pc2 := 12) (JX.il (k := 3) rfl dX7_countHooks_4) (JX.call (pc1 := 9) decI_ok (JA.r (JX.getR (pc1 := 6) (c := 7) (k := 4) (i := 27) (JX.al (k := 0) rfl dX7_countHooks_5) cl7 (by decide) rfl fk7_27 dX7_countHooks_6) JA.nil) aX5_size (RunK.V (i := 38) (c := 5) (n := 0) cl5 rfl (CN nX5_size (by decide) (by decide)) gw1173 gw587 gw588 dX7_countHooks_9) (by decide)) dX7_countHooks_12 rfl) (JS.forb (pc1 := 35) (JS.is (pc1 := 34) (k := 2) (JX.iadd (pc1 := 16) (pc2 := 33) (JX.il (k := 2) rfl dX7_countHooks_15) (JX.ite (l := 32) (pc1 := 28) (pc2 := 29) (pc3 := 33) (lend := 33) (CJ.eq_f (tgt := 32) (pc1 := 24) (pc2 := 25) (JX.call (pc1 := 21) decI_ok (JA.r (JX.getR (pc1 := 17) (c := 7) (k := 4) (i := 27) (JX.al (k := 0) rfl dX7_countHooks_16) cl7 (by decide) rfl fk7_27 dX7_countHooks_17) (JA.i (JX.il (k := 3) rfl dX7_countHooks_20) JA.nil)) aX5_at (RunK.V (i := 74) (c := 5) (n := 1) cl5 rfl (CN nX5_at (by decide) (by decide)) gw1188 gw595 gw596 dX7_countHooks_21) (by decide)) (JX.il (k := 1) rfl dX7_countHooks_24) dX7_countHooks_25 rfl) (JX.ic (n := 1) rfl dX7_countHooks_28) dX7_countHooks_29 rfl (JX.ic (n := 0) rfl dX7_countHooks_32) (Or.inl rfl)) dX7_countHooks_33) rfl (show 2 < 4 by decide) dX7_countHooks_34) (JS.inc (n := 1) rfl (show 3 < 4 by decide) dX7_countHooks_35)) dX7_countHooks_38 rfl (Or.inl rfl) (Or.inl rfl)))) (JS.retI (pc1 := 42) (JX.il (k := 2) rfl dX7_countHooks_41) dX7_countHooks_42)))
def mX7_countHooks : MS := runM 4 (some (.int)) bX7_countHooks
theorem aX7_countHooks : MA yX7_countHooks cX7_countHooks 4 (some (.int)) 2 mX7_countHooks := MA.of (plainFor_of_name (by decide)) jX7_countHooks
theorem eX7_countHooks (a0 : Nat) (a1 : Int32) (h : AH) : mX7_countHooks [.ref a0, .int a1] h = (bX7_countHooks [.val (.ref a0), .val (.int a1), .unset, .unset] h).bind (finM (some (.int))) := rfl
/-! Saver.nextChampion -/
theorem dX7_nextChampion_0 : decode cX7_nextChampion 0 = .ok (.iconst (-1), 1) := by decide +kernel
theorem dX7_nextChampion_1 : decode cX7_nextChampion 1 = .ok (.istore_n 1, 1) := by decide +kernel
theorem dX7_nextChampion_2 : decode cX7_nextChampion 2 = .ok (.iconst 0, 1) := by decide +kernel
theorem dX7_nextChampion_3 : decode cX7_nextChampion 3 = .ok (.istore_n 2, 1) := by decide +kernel
theorem dX7_nextChampion_4 : decode cX7_nextChampion 4 = .ok (.iconst 0, 1) := by decide +kernel
theorem dX7_nextChampion_5 : decode cX7_nextChampion 5 = .ok (.istore_n 3, 1) := by decide +kernel
theorem dX7_nextChampion_6 : decode cX7_nextChampion 6 = .ok (.iload_n 3, 1) := by decide +kernel
theorem dX7_nextChampion_7 : decode cX7_nextChampion 7 = .ok (.aload_n 0, 1) := by decide +kernel
theorem dX7_nextChampion_8 : decode cX7_nextChampion 8 = .ok (.getfield 27, 3) := by decide +kernel
theorem dX7_nextChampion_11 : decode cX7_nextChampion 11 = .ok (.invokevirtual 38, 3) := by decide +kernel
theorem dX7_nextChampion_14 : decode cX7_nextChampion 14 = .ok (.if_icmp .ge 70, 3) := by decide +kernel
theorem dX7_nextChampion_17 : decode cX7_nextChampion 17 = .ok (.aload_n 0, 1) := by decide +kernel
theorem dX7_nextChampion_18 : decode cX7_nextChampion 18 = .ok (.getfield 27, 3) := by decide +kernel
theorem dX7_nextChampion_21 : decode cX7_nextChampion 21 = .ok (.iload_n 3, 1) := by decide +kernel
theorem dX7_nextChampion_22 : decode cX7_nextChampion 22 = .ok (.invokevirtual 74, 3) := by decide +kernel
theorem dX7_nextChampion_25 : decode cX7_nextChampion 25 = .ok (.istore 4, 2) := by decide +kernel
theorem dX7_nextChampion_27 : decode cX7_nextChampion 27 = .ok (.iload 4, 2) := by decide +kernel
theorem dX7_nextChampion_29 : decode cX7_nextChampion 29 = .ok (.iconst (-1), 1) := by decide +kernel
theorem dX7_nextChampion_30 : decode cX7_nextChampion 30 = .ok (.if_icmp .eq 48, 3) := by decide +kernel
theorem dX7_nextChampion_33 : decode cX7_nextChampion 33 = .ok (.aload_n 0, 1) := by decide +kernel
theorem dX7_nextChampion_34 : decode cX7_nextChampion 34 = .ok (.getfield 30, 3) := by decide +kernel
theorem dX7_nextChampion_37 : decode cX7_nextChampion 37 = .ok (.iload 4, 2) := by decide +kernel
theorem dX7_nextChampion_39 : decode cX7_nextChampion 39 = .ok (.invokevirtual 127, 3) := by decide +kernel
theorem dX7_nextChampion_42 : decode cX7_nextChampion 42 = .ok (.iconst (-1), 1) := by decide +kernel
theorem dX7_nextChampion_43 : decode cX7_nextChampion 43 = .ok (.if_icmp .ne 35, 3) := by decide +kernel
theorem dX7_nextChampion_46 : decode cX7_nextChampion 46 = .ok (.aload_n 0, 1) := by decide +kernel
theorem dX7_nextChampion_47 : decode cX7_nextChampion 47 = .ok (.iload 4, 2) := by decide +kernel
theorem dX7_nextChampion_49 : decode cX7_nextChampion 49 = .ok (.invokevirtual 136, 3) := by decide +kernel
theorem dX7_nextChampion_52 : decode cX7_nextChampion 52 = .ok (.istore 5, 2) := by decide +kernel
theorem dX7_nextChampion_54 : decode cX7_nextChampion 54 = .ok (.iload 5, 2) := by decide +kernel
theorem dX7_nextChampion_56 : decode cX7_nextChampion 56 = .ok (.iload_n 2, 1) := by decide +kernel
theorem dX7_nextChampion_57 : decode cX7_nextChampion 57 = .ok (.if_icmp .gt 15, 3) := by decide +kernel
theorem dX7_nextChampion_60 : decode cX7_nextChampion 60 = .ok (.iload 5, 2) := by decide +kernel
theorem dX7_nextChampion_62 : decode cX7_nextChampion 62 = .ok (.iload_n 2, 1) := by decide +kernel
theorem dX7_nextChampion_63 : decode cX7_nextChampion 63 = .ok (.if_icmp .ne 15, 3) := by decide +kernel
theorem dX7_nextChampion_66 : decode cX7_nextChampion 66 = .ok (.iload 4, 2) := by decide +kernel
theorem dX7_nextChampion_68 : decode cX7_nextChampion 68 = .ok (.iload_n 1, 1) := by decide +kernel
theorem dX7_nextChampion_69 : decode cX7_nextChampion 69 = .ok (.if_icmp .le 9, 3) := by decide +kernel
theorem dX7_nextChampion_72 : decode cX7_nextChampion 72 = .ok (.iload 4, 2) := by decide +kernel
theorem dX7_nextChampion_74 : decode cX7_nextChampion 74 = .ok (.istore_n 1, 1) := by decide +kernel
theorem dX7_nextChampion_75 : decode cX7_nextChampion 75 = .ok (.iload 5, 2) := by decide +kernel
theorem dX7_nextChampion_77 : decode cX7_nextChampion 77 = .ok (.istore_n 2, 1) := by decide +kernel
theorem dX7_nextChampion_78 : decode cX7_nextChampion 78 = .ok (.iinc 3 1, 3) := by decide +kernel
theorem dX7_nextChampion_81 : decode cX7_nextChampion 81 = .ok (.goto (-75), 3) := by decide +kernel
theorem dX7_nextChampion_84 : decode cX7_nextChampion 84 = .ok (.iload_n 1, 1) := by decide +kernel
theorem dX7_nextChampion_85 : decode cX7_nextChampion 85 = .ok (.ireturn, 1) := by decide +kernel
abbrev MX7_nextChampion : MI := (RX7, cX7_nextChampion, 6, 3, false)
def lcX7_nextChampion_1 : Ex Bool := (ltI (lvI 3) (calX decI (ckV 5 0) mX5_size (agC va_rf (getR 7 4 (lvR 0)) agN)))
def lbX7_nextChampion_1 : St := (forB (scS 4 (seqS (lsI 4 (calX decI (ckV 5 1) mX5_at (agC va_rf (getR 7 4 (lvR 0)) (agC Value.int (lvI 3) agN)))) (ifS (andX (neI (lvI 4) (ciI (iI (-1)))) (eqI (calX decI (ckV 5 1) mX5_indexOf (agC va_rf (getR 7 5 (lvR 0)) (agC Value.int (lvI 4) agN))) (ciI (iI (-1))))) (scS 5 (seqS (lsI 5 (calX decI (ckV 7 1) mX7_countHooks (agC va_rf (lvR 0) (agC Value.int (lvI 4) agN)))) (ifS (orX (gtI (lvI 5) (lvI 2)) (andX (eqI (lvI 5) (lvI 2)) (gtI (lvI 4) (lvI 1)))) (seqS (lsI 1 (lvI 4)) (lsI 2 (lvI 5))))))))) (incI 3 (iI 1)))
def bX7_nextChampion : St := (seqS (lsI 1 (ciI (iI (-1)))) (seqS (lsI 2 (ciI (iI 0))) (seqS (scS 3 (seqS (lsI 3 (ciI (iI 0))) (whileS lcX7_nextChampion_1 lbX7_nextChampion_1))) (retI (lvI 1)))))
theorem jX7_nextChampion : JS MX7_nextChampion 0 0 0 86 [] bX7_nextChampion :=
  (JS.seq (pc1 := 2) (JS.is (pc1 := 1) (k := 1) (JX.ic (n := (-1)) rfl dX7_nextChampion_0) rfl (show 1 < 6 by decide) dX7_nextChampion_1) (JS.seq (pc1 := 4) (JS.is (pc1 := 3) (k := 2) (JX.ic (n := 0) rfl dX7_nextChampion_2) rfl (show 2 < 6 by decide) dX7_nextChampion_3) (JS.seq (pc1 := 84) (JS.sc (JS.seq (pc1 := 6) (JS.is (pc1 := 5) (k := 3) (JX.ic (n := 0) rfl dX7_nextChampion_4) rfl (show 3 < 6 by decide) dX7_nextChampion_5) (JS.while (l := 84) (lb := 84) (pc1 := 17) (pc2 := 81) (pc3 := 84) (CJ.lt_f (tgt := 84) (pc1 := 7) (pc2 := 14) (JX.il (k := 3) rfl dX7_nextChampion_6) (JX.call (pc1 := 11) decI_ok (JA.r (JX.getR (pc1 := 8) (c := 7) (k := 4) (i := 27) (JX.al (k := 0) rfl dX7_nextChampion_7) cl7 (by decide) rfl fk7_27 dX7_nextChampion_8) JA.nil) aX5_size (RunK.V (i := 38) (c := 5) (n := 0) cl5 rfl (CN nX5_size (by decide) (by decide)) gw1173 gw587 gw588 dX7_nextChampion_11) (by decide)) dX7_nextChampion_14 rfl) (JS.forb (pc1 := 78) (JS.sc (JS.seq (pc1 := 27) (JS.is2 (pc1 := 25) (JX.call (pc1 := 22) decI_ok (JA.r (JX.getR (pc1 := 18) (c := 7) (k := 4) (i := 27) (JX.al (k := 0) rfl dX7_nextChampion_17) cl7 (by decide) rfl fk7_27 dX7_nextChampion_18) (JA.i (JX.il (k := 3) rfl dX7_nextChampion_21) JA.nil)) aX5_at (RunK.V (i := 74) (c := 5) (n := 1) cl5 rfl (CN nX5_at (by decide) (by decide)) gw1188 gw595 gw596 dX7_nextChampion_22) (by decide)) (show 4 < 6 by decide) dX7_nextChampion_25) (JS.iff (l := 78) (pc1 := 46) (CJ.and_f (pc1 := 33) (CJ.ne_f (tgt := 78) (pc1 := 29) (pc2 := 30) (JX.il2 dX7_nextChampion_27) (JX.ic (n := (-1)) rfl dX7_nextChampion_29) dX7_nextChampion_30 rfl) (CJ.eq_f (tgt := 78) (pc1 := 42) (pc2 := 43) (JX.call (pc1 := 39) decI_ok (JA.r (JX.getR (pc1 := 34) (c := 7) (k := 5) (i := 30) (JX.al (k := 0) rfl dX7_nextChampion_33) cl7 (by decide) rfl fk7_30 dX7_nextChampion_34) (JA.i (JX.il2 dX7_nextChampion_37) JA.nil)) aX5_indexOf (RunK.V (i := 127) (c := 5) (n := 1) cl5 rfl (CN nX5_indexOf (by decide) (by decide)) gw1198 gw649 gw650 dX7_nextChampion_39) (by decide)) (JX.ic (n := (-1)) rfl dX7_nextChampion_42) dX7_nextChampion_43 rfl)) (JS.sc (JS.seq (pc1 := 54) (JS.is2 (pc1 := 52) (JX.call (pc1 := 49) decI_ok (JA.r (JX.al (k := 0) rfl dX7_nextChampion_46) (JA.i (JX.il2 dX7_nextChampion_47) JA.nil)) aX7_countHooks (RunK.V (i := 136) (c := 7) (n := 1) cl7 rfl (CN nX7_countHooks (by decide) (by decide)) gw1208 gw1210 gs49 dX7_nextChampion_49) (by decide)) (show 5 < 6 by decide) dX7_nextChampion_52) (JS.iff (l := 78) (pc1 := 72) (CJ.or_f (l := 72) (pc1 := 60) (CJ.gt_t (tgt := 72) (pc1 := 56) (pc2 := 57) (JX.il2 dX7_nextChampion_54) (JX.il (k := 2) rfl dX7_nextChampion_56) dX7_nextChampion_57 rfl) (CJ.and_f (pc1 := 66) (CJ.eq_f (tgt := 78) (pc1 := 62) (pc2 := 63) (JX.il2 dX7_nextChampion_60) (JX.il (k := 2) rfl dX7_nextChampion_62) dX7_nextChampion_63 rfl) (CJ.gt_f (tgt := 78) (pc1 := 68) (pc2 := 69) (JX.il2 dX7_nextChampion_66) (JX.il (k := 1) rfl dX7_nextChampion_68) dX7_nextChampion_69 rfl)) (Or.inl rfl)) (JS.seq (pc1 := 75) (JS.is (pc1 := 74) (k := 1) (JX.il2 dX7_nextChampion_72) rfl (show 1 < 6 by decide) dX7_nextChampion_74) (JS.is (pc1 := 77) (k := 2) (JX.il2 dX7_nextChampion_75) rfl (show 2 < 6 by decide) dX7_nextChampion_77)) (Or.inl rfl)))) (Or.inl rfl)))) (JS.inc (n := 1) rfl (show 3 < 6 by decide) dX7_nextChampion_78)) dX7_nextChampion_81 rfl (Or.inl rfl) (Or.inl rfl)))) (JS.retI (pc1 := 85) (JX.il (k := 1) rfl dX7_nextChampion_84) dX7_nextChampion_85))))
def mX7_nextChampion : MS := runM 6 (some (.int)) bX7_nextChampion
theorem aX7_nextChampion : MA yX7_nextChampion cX7_nextChampion 6 (some (.int)) 3 mX7_nextChampion := MA.of (plainFor_of_name (by decide)) jX7_nextChampion
theorem eX7_nextChampion (a0 : Nat) (h : AH) : mX7_nextChampion [.ref a0] h = (bX7_nextChampion [.val (.ref a0), .unset, .unset, .unset, .unset, .unset] h).bind (finM (some (.int))) := rfl
/-! Saver.findChampions -/
theorem dX7_findChampions_0 : decode cX7_findChampions 0 = .ok (.aload_n 0, 1) := by decide +kernel
theorem dX7_findChampions_1 : decode cX7_findChampions 1 = .ok (.getfield 30, 3) := by decide +kernel
theorem dX7_findChampions_4 : decode cX7_findChampions 4 = .ok (.invokevirtual 87, 3) := by decide +kernel
theorem dX7_findChampions_7 : decode cX7_findChampions 7 = .ok (.iconst 0, 1) := by decide +kernel
theorem dX7_findChampions_8 : decode cX7_findChampions 8 = .ok (.istore_n 2, 1) := by decide +kernel
theorem dX7_findChampions_9 : decode cX7_findChampions 9 = .ok (.iload_n 2, 1) := by decide +kernel
theorem dX7_findChampions_10 : decode cX7_findChampions 10 = .ok (.iload_n 1, 1) := by decide +kernel
theorem dX7_findChampions_11 : decode cX7_findChampions 11 = .ok (.if_icmp .ge 28, 3) := by decide +kernel
theorem dX7_findChampions_14 : decode cX7_findChampions 14 = .ok (.aload_n 0, 1) := by decide +kernel
theorem dX7_findChampions_15 : decode cX7_findChampions 15 = .ok (.invokevirtual 133, 3) := by decide +kernel
theorem dX7_findChampions_18 : decode cX7_findChampions 18 = .ok (.istore_n 3, 1) := by decide +kernel
theorem dX7_findChampions_19 : decode cX7_findChampions 19 = .ok (.iload_n 3, 1) := by decide +kernel
theorem dX7_findChampions_20 : decode cX7_findChampions 20 = .ok (.iconst (-1), 1) := by decide +kernel
theorem dX7_findChampions_21 : decode cX7_findChampions 21 = .ok (.if_icmp .ne 4, 3) := by decide +kernel
theorem dX7_findChampions_24 : decode cX7_findChampions 24 = .ok (.return_, 1) := by decide +kernel
theorem dX7_findChampions_25 : decode cX7_findChampions 25 = .ok (.aload_n 0, 1) := by decide +kernel
theorem dX7_findChampions_26 : decode cX7_findChampions 26 = .ok (.getfield 30, 3) := by decide +kernel
theorem dX7_findChampions_29 : decode cX7_findChampions 29 = .ok (.iload_n 3, 1) := by decide +kernel
theorem dX7_findChampions_30 : decode cX7_findChampions 30 = .ok (.invokevirtual 71, 3) := by decide +kernel
theorem dX7_findChampions_33 : decode cX7_findChampions 33 = .ok (.iinc 2 1, 3) := by decide +kernel
theorem dX7_findChampions_36 : decode cX7_findChampions 36 = .ok (.goto (-27), 3) := by decide +kernel
theorem dX7_findChampions_39 : decode cX7_findChampions 39 = .ok (.return_, 1) := by decide +kernel
abbrev MX7_findChampions : MI := (RX7, cX7_findChampions, 4, 4, false)
def lcX7_findChampions_1 : Ex Bool := (ltI (lvI 2) (lvI 1))
def lbX7_findChampions_1 : St := (forB (scS 3 (seqS (lsI 3 (calX decI (ckV 7 0) mX7_nextChampion (agC va_rf (lvR 0) agN))) (seqS (ifS (eqI (lvI 3) (ciI (iI (-1)))) retV) (calS (ckV 5 1) mX5_add (agC va_rf (getR 7 5 (lvR 0)) (agC Value.int (lvI 3) agN)))))) (incI 2 (iI 1)))
def bX7_findChampions : St := (seqS (calS (ckV 5 0) mX5_clear (agC va_rf (getR 7 5 (lvR 0)) agN)) (seqS (scS 2 (seqS (lsI 2 (ciI (iI 0))) (whileS lcX7_findChampions_1 lbX7_findChampions_1))) retV))
theorem jX7_findChampions : JS MX7_findChampions 0 0 0 40 [] bX7_findChampions :=
  (JS.seq (pc1 := 7) (JS.call (pc1 := 4) (JA.r (JX.getR (pc1 := 1) (c := 7) (k := 5) (i := 30) (JX.al (k := 0) rfl dX7_findChampions_0) cl7 (by decide) rfl fk7_30 dX7_findChampions_1) JA.nil) aX5_clear (RunK.V (i := 87) (c := 5) (n := 0) cl5 rfl (CN nX5_clear (by decide) (by decide)) gw1178 gw209 gw210 dX7_findChampions_4)) (JS.seq (pc1 := 39) (JS.sc (JS.seq (pc1 := 9) (JS.is (pc1 := 8) (k := 2) (JX.ic (n := 0) rfl dX7_findChampions_7) rfl (show 2 < 4 by decide) dX7_findChampions_8) (JS.while (l := 39) (lb := 39) (pc1 := 14) (pc2 := 36) (pc3 := 39) (CJ.lt_f (tgt := 39) (pc1 := 10) (pc2 := 11) (JX.il (k := 2) rfl dX7_findChampions_9) (JX.il (k := 1) rfl dX7_findChampions_10) dX7_findChampions_11 rfl) (JS.forb (pc1 := 33) (JS.sc (JS.seq (pc1 := 19) (JS.is (pc1 := 18) (k := 3) (JX.call (pc1 := 15) decI_ok (JA.r (JX.al (k := 0) rfl dX7_findChampions_14) JA.nil) aX7_nextChampion (RunK.V (i := 133) (c := 7) (n := 0) cl7 rfl (CN nX7_nextChampion (by decide) (by decide)) gw1204 gw1206 gs48 dX7_findChampions_15) (by decide)) rfl (show 3 < 4 by decide) dX7_findChampions_18) (JS.seq (pc1 := 25) (JS.iff (l := 25) (pc1 := 24) (CJ.eq_f (tgt := 25) (pc1 := 20) (pc2 := 21) (JX.il (k := 3) rfl dX7_findChampions_19) (JX.ic (n := (-1)) rfl dX7_findChampions_20) dX7_findChampions_21 rfl) (JS.retV dX7_findChampions_24) (Or.inl rfl)) (JS.call (pc1 := 30) (JA.r (JX.getR (pc1 := 26) (c := 7) (k := 5) (i := 30) (JX.al (k := 0) rfl dX7_findChampions_25) cl7 (by decide) rfl fk7_30 dX7_findChampions_26) (JA.i (JX.il (k := 3) rfl dX7_findChampions_29) JA.nil)) aX5_add (RunK.V (i := 71) (c := 5) (n := 1) cl5 rfl (CN nX5_add (by decide) (by decide)) gw1189 gw121 gw122 dX7_findChampions_30))))) (JS.inc (n := 1) rfl (show 2 < 4 by decide) dX7_findChampions_33)) dX7_findChampions_36 rfl (Or.inl rfl) (Or.inl rfl)))) (JS.retV dX7_findChampions_39)))
def mX7_findChampions : MS := runM 4 none bX7_findChampions
theorem aX7_findChampions : MA yX7_findChampions cX7_findChampions 4 none 4 mX7_findChampions := MA.of (plainFor_of_name (by decide)) jX7_findChampions
theorem eX7_findChampions (a0 : Nat) (a1 : Int32) (h : AH) : mX7_findChampions [.ref a0, .int a1] h = (bX7_findChampions [.val (.ref a0), .val (.int a1), .unset, .unset] h).bind (finM none) := rfl
/-! Saver.pieceAmong -/
theorem dX7_pieceAmong_0 : decode cX7_pieceAmong 0 = .ok (.iload_n 2, 1) := by decide +kernel
theorem dX7_pieceAmong_1 : decode cX7_pieceAmong 1 = .ok (.istore 4, 2) := by decide +kernel
theorem dX7_pieceAmong_3 : decode cX7_pieceAmong 3 = .ok (.iload 4, 2) := by decide +kernel
theorem dX7_pieceAmong_5 : decode cX7_pieceAmong 5 = .ok (.iload_n 3, 1) := by decide +kernel
theorem dX7_pieceAmong_6 : decode cX7_pieceAmong 6 = .ok (.if_icmp .ge 49, 3) := by decide +kernel
theorem dX7_pieceAmong_9 : decode cX7_pieceAmong 9 = .ok (.aload_n 0, 1) := by decide +kernel
theorem dX7_pieceAmong_10 : decode cX7_pieceAmong 10 = .ok (.getfield 42, 3) := by decide +kernel
theorem dX7_pieceAmong_13 : decode cX7_pieceAmong 13 = .ok (.iload 4, 2) := by decide +kernel
theorem dX7_pieceAmong_15 : decode cX7_pieceAmong 15 = .ok (.invokevirtual 74, 3) := by decide +kernel
theorem dX7_pieceAmong_18 : decode cX7_pieceAmong 18 = .ok (.istore 5, 2) := by decide +kernel
theorem dX7_pieceAmong_20 : decode cX7_pieceAmong 20 = .ok (.aload_n 0, 1) := by decide +kernel
theorem dX7_pieceAmong_21 : decode cX7_pieceAmong 21 = .ok (.getfield 143, 3) := by decide +kernel
theorem dX7_pieceAmong_24 : decode cX7_pieceAmong 24 = .ok (.iload 5, 2) := by decide +kernel
theorem dX7_pieceAmong_26 : decode cX7_pieceAmong 26 = .ok (.invokevirtual 74, 3) := by decide +kernel
theorem dX7_pieceAmong_29 : decode cX7_pieceAmong 29 = .ok (.iload_n 1, 1) := by decide +kernel
theorem dX7_pieceAmong_30 : decode cX7_pieceAmong 30 = .ok (.if_icmp .ne 19, 3) := by decide +kernel
theorem dX7_pieceAmong_33 : decode cX7_pieceAmong 33 = .ok (.aload_n 0, 1) := by decide +kernel
theorem dX7_pieceAmong_34 : decode cX7_pieceAmong 34 = .ok (.getfield 146, 3) := by decide +kernel
theorem dX7_pieceAmong_37 : decode cX7_pieceAmong 37 = .ok (.iload 5, 2) := by decide +kernel
theorem dX7_pieceAmong_39 : decode cX7_pieceAmong 39 = .ok (.invokevirtual 74, 3) := by decide +kernel
theorem dX7_pieceAmong_42 : decode cX7_pieceAmong 42 = .ok (.iconst (-1), 1) := by decide +kernel
theorem dX7_pieceAmong_43 : decode cX7_pieceAmong 43 = .ok (.if_icmp .eq 6, 3) := by decide +kernel
theorem dX7_pieceAmong_46 : decode cX7_pieceAmong 46 = .ok (.iload 5, 2) := by decide +kernel
theorem dX7_pieceAmong_48 : decode cX7_pieceAmong 48 = .ok (.ireturn, 1) := by decide +kernel
theorem dX7_pieceAmong_49 : decode cX7_pieceAmong 49 = .ok (.iinc 4 1, 3) := by decide +kernel
theorem dX7_pieceAmong_52 : decode cX7_pieceAmong 52 = .ok (.goto (-49), 3) := by decide +kernel
theorem dX7_pieceAmong_55 : decode cX7_pieceAmong 55 = .ok (.iconst (-1), 1) := by decide +kernel
theorem dX7_pieceAmong_56 : decode cX7_pieceAmong 56 = .ok (.ireturn, 1) := by decide +kernel
abbrev MX7_pieceAmong : MI := (RX7, cX7_pieceAmong, 6, 2, false)
def lcX7_pieceAmong_1 : Ex Bool := (ltI (lvI 4) (lvI 3))
def lbX7_pieceAmong_1 : St := (forB (scS 5 (seqS (lsI 5 (calX decI (ckV 5 1) mX5_at (agC va_rf (getR 10 6 (lvR 0)) (agC Value.int (lvI 4) agN)))) (ifS (andX (eqI (calX decI (ckV 5 1) mX5_at (agC va_rf (getR 10 4 (lvR 0)) (agC Value.int (lvI 5) agN))) (lvI 1)) (neI (calX decI (ckV 5 1) mX5_at (agC va_rf (getR 10 5 (lvR 0)) (agC Value.int (lvI 5) agN))) (ciI (iI (-1))))) (retI (lvI 5))))) (incI 4 (iI 1)))
def bX7_pieceAmong : St := (seqS (scS 4 (seqS (lsI 4 (lvI 2)) (whileS lcX7_pieceAmong_1 lbX7_pieceAmong_1))) (retI (ciI (iI (-1)))))
theorem jX7_pieceAmong : JS MX7_pieceAmong 0 0 0 57 [] bX7_pieceAmong :=
  (JS.seq (pc1 := 55) (JS.sc (JS.seq (pc1 := 3) (JS.is2 (pc1 := 1) (JX.il (k := 2) rfl dX7_pieceAmong_0) (show 4 < 6 by decide) dX7_pieceAmong_1) (JS.while (l := 55) (lb := 55) (pc1 := 9) (pc2 := 52) (pc3 := 55) (CJ.lt_f (tgt := 55) (pc1 := 5) (pc2 := 6) (JX.il2 dX7_pieceAmong_3) (JX.il (k := 3) rfl dX7_pieceAmong_5) dX7_pieceAmong_6 rfl) (JS.forb (pc1 := 49) (JS.sc (JS.seq (pc1 := 20) (JS.is2 (pc1 := 18) (JX.call (pc1 := 15) decI_ok (JA.r (JX.getR (pc1 := 10) (c := 10) (k := 6) (i := 42) (JX.al (k := 0) rfl dX7_pieceAmong_9) cl10 (by decide) rfl fk7_42 dX7_pieceAmong_10) (JA.i (JX.il2 dX7_pieceAmong_13) JA.nil)) aX5_at (RunK.V (i := 74) (c := 5) (n := 1) cl5 rfl (CN nX5_at (by decide) (by decide)) gw1188 gw595 gw596 dX7_pieceAmong_15) (by decide)) (show 5 < 6 by decide) dX7_pieceAmong_18) (JS.iff (l := 49) (pc1 := 46) (CJ.and_f (pc1 := 33) (CJ.eq_f (tgt := 49) (pc1 := 29) (pc2 := 30) (JX.call (pc1 := 26) decI_ok (JA.r (JX.getR (pc1 := 21) (c := 10) (k := 4) (i := 143) (JX.al (k := 0) rfl dX7_pieceAmong_20) cl10 (by decide) rfl fk7_143 dX7_pieceAmong_21) (JA.i (JX.il2 dX7_pieceAmong_24) JA.nil)) aX5_at (RunK.V (i := 74) (c := 5) (n := 1) cl5 rfl (CN nX5_at (by decide) (by decide)) gw1188 gw595 gw596 dX7_pieceAmong_26) (by decide)) (JX.il (k := 1) rfl dX7_pieceAmong_29) dX7_pieceAmong_30 rfl) (CJ.ne_f (tgt := 49) (pc1 := 42) (pc2 := 43) (JX.call (pc1 := 39) decI_ok (JA.r (JX.getR (pc1 := 34) (c := 10) (k := 5) (i := 146) (JX.al (k := 0) rfl dX7_pieceAmong_33) cl10 (by decide) rfl fk7_146 dX7_pieceAmong_34) (JA.i (JX.il2 dX7_pieceAmong_37) JA.nil)) aX5_at (RunK.V (i := 74) (c := 5) (n := 1) cl5 rfl (CN nX5_at (by decide) (by decide)) gw1188 gw595 gw596 dX7_pieceAmong_39) (by decide)) (JX.ic (n := (-1)) rfl dX7_pieceAmong_42) dX7_pieceAmong_43 rfl)) (JS.retI (pc1 := 48) (JX.il2 dX7_pieceAmong_46) dX7_pieceAmong_48) (Or.inl rfl)))) (JS.inc (n := 1) rfl (show 4 < 6 by decide) dX7_pieceAmong_49)) dX7_pieceAmong_52 rfl (Or.inl rfl) (Or.inl rfl)))) (JS.retI (pc1 := 56) (JX.ic (n := (-1)) rfl dX7_pieceAmong_55) dX7_pieceAmong_56))
def mX7_pieceAmong : MS := runM 6 (some (.int)) bX7_pieceAmong
theorem aX7_pieceAmong : MA yX7_pieceAmong cX7_pieceAmong 6 (some (.int)) 2 mX7_pieceAmong := MA.of (plainFor_of_name (by decide)) jX7_pieceAmong
theorem eX7_pieceAmong (a0 : Nat) (a1 : Int32) (a2 : Int32) (a3 : Int32) (h : AH) : mX7_pieceAmong [.ref a0, .int a1, .int a2, .int a3] h = (bX7_pieceAmong [.val (.ref a0), .val (.int a1), .val (.int a2), .val (.int a3), .unset, .unset] h).bind (finM (some (.int))) := rfl
/-! Saver.pieceHad -/
theorem dX7_pieceHad_0 : decode cX7_pieceHad 0 = .ok (.iconst 0, 1) := by decide +kernel
theorem dX7_pieceHad_1 : decode cX7_pieceHad 1 = .ok (.istore 4, 2) := by decide +kernel
theorem dX7_pieceHad_3 : decode cX7_pieceHad 3 = .ok (.iload 4, 2) := by decide +kernel
theorem dX7_pieceHad_5 : decode cX7_pieceHad 5 = .ok (.aload_n 0, 1) := by decide +kernel
theorem dX7_pieceHad_6 : decode cX7_pieceHad 6 = .ok (.getfield 30, 3) := by decide +kernel
theorem dX7_pieceHad_9 : decode cX7_pieceHad 9 = .ok (.invokevirtual 38, 3) := by decide +kernel
theorem dX7_pieceHad_12 : decode cX7_pieceHad 12 = .ok (.if_icmp .ge 60, 3) := by decide +kernel
theorem dX7_pieceHad_15 : decode cX7_pieceHad 15 = .ok (.aload_n 0, 1) := by decide +kernel
theorem dX7_pieceHad_16 : decode cX7_pieceHad 16 = .ok (.getfield 30, 3) := by decide +kernel
theorem dX7_pieceHad_19 : decode cX7_pieceHad 19 = .ok (.iload 4, 2) := by decide +kernel
theorem dX7_pieceHad_21 : decode cX7_pieceHad 21 = .ok (.invokevirtual 74, 3) := by decide +kernel
theorem dX7_pieceHad_24 : decode cX7_pieceHad 24 = .ok (.istore 5, 2) := by decide +kernel
theorem dX7_pieceHad_26 : decode cX7_pieceHad 26 = .ok (.aload_n 1, 1) := by decide +kernel
theorem dX7_pieceHad_27 : decode cX7_pieceHad 27 = .ok (.getfield 33, 3) := by decide +kernel
theorem dX7_pieceHad_30 : decode cX7_pieceHad 30 = .ok (.iload 5, 2) := by decide +kernel
theorem dX7_pieceHad_32 : decode cX7_pieceHad 32 = .ok (.iconst 1, 1) := by decide +kernel
theorem dX7_pieceHad_33 : decode cX7_pieceHad 33 = .ok (.iadd, 1) := by decide +kernel
theorem dX7_pieceHad_34 : decode cX7_pieceHad 34 = .ok (.invokevirtual 74, 3) := by decide +kernel
theorem dX7_pieceHad_37 : decode cX7_pieceHad 37 = .ok (.istore 6, 2) := by decide +kernel
theorem dX7_pieceHad_39 : decode cX7_pieceHad 39 = .ok (.aload_n 1, 1) := by decide +kernel
theorem dX7_pieceHad_40 : decode cX7_pieceHad 40 = .ok (.iload_n 2, 1) := by decide +kernel
theorem dX7_pieceHad_41 : decode cX7_pieceHad 41 = .ok (.aload_n 1, 1) := by decide +kernel
theorem dX7_pieceHad_42 : decode cX7_pieceHad 42 = .ok (.getfield 33, 3) := by decide +kernel
theorem dX7_pieceHad_45 : decode cX7_pieceHad 45 = .ok (.iload 5, 2) := by decide +kernel
theorem dX7_pieceHad_47 : decode cX7_pieceHad 47 = .ok (.invokevirtual 74, 3) := by decide +kernel
theorem dX7_pieceHad_50 : decode cX7_pieceHad 50 = .ok (.iload 6, 2) := by decide +kernel
theorem dX7_pieceHad_52 : decode cX7_pieceHad 52 = .ok (.invokestatic 139, 3) := by decide +kernel
theorem dX7_pieceHad_55 : decode cX7_pieceHad 55 = .ok (.istore 7, 2) := by decide +kernel
theorem dX7_pieceHad_57 : decode cX7_pieceHad 57 = .ok (.iload 7, 2) := by decide +kernel
theorem dX7_pieceHad_59 : decode cX7_pieceHad 59 = .ok (.iconst (-1), 1) := by decide +kernel
theorem dX7_pieceHad_60 : decode cX7_pieceHad 60 = .ok (.if_icmp .eq 6, 3) := by decide +kernel
theorem dX7_pieceHad_63 : decode cX7_pieceHad 63 = .ok (.iload 7, 2) := by decide +kernel
theorem dX7_pieceHad_65 : decode cX7_pieceHad 65 = .ok (.ireturn, 1) := by decide +kernel
theorem dX7_pieceHad_66 : decode cX7_pieceHad 66 = .ok (.iinc 4 1, 3) := by decide +kernel
theorem dX7_pieceHad_69 : decode cX7_pieceHad 69 = .ok (.goto (-66), 3) := by decide +kernel
theorem dX7_pieceHad_72 : decode cX7_pieceHad 72 = .ok (.aload_n 1, 1) := by decide +kernel
theorem dX7_pieceHad_73 : decode cX7_pieceHad 73 = .ok (.iload_n 2, 1) := by decide +kernel
theorem dX7_pieceHad_74 : decode cX7_pieceHad 74 = .ok (.iload_n 3, 1) := by decide +kernel
theorem dX7_pieceHad_75 : decode cX7_pieceHad 75 = .ok (.aload_n 1, 1) := by decide +kernel
theorem dX7_pieceHad_76 : decode cX7_pieceHad 76 = .ok (.getfield 42, 3) := by decide +kernel
theorem dX7_pieceHad_79 : decode cX7_pieceHad 79 = .ok (.invokevirtual 38, 3) := by decide +kernel
theorem dX7_pieceHad_82 : decode cX7_pieceHad 82 = .ok (.invokestatic 139, 3) := by decide +kernel
theorem dX7_pieceHad_85 : decode cX7_pieceHad 85 = .ok (.ireturn, 1) := by decide +kernel
abbrev MX7_pieceHad : MI := (RX7, cX7_pieceHad, 8, 3, false)
def lcX7_pieceHad_1 : Ex Bool := (ltI (lvI 4) (calX decI (ckV 5 0) mX5_size (agC va_rf (getR 7 5 (lvR 0)) agN)))
def lbX7_pieceHad_1 : St := (forB (scS 5 (seqS (lsI 5 (calX decI (ckV 5 1) mX5_at (agC va_rf (getR 7 5 (lvR 0)) (agC Value.int (lvI 4) agN)))) (seqS (lsI 6 (calX decI (ckV 5 1) mX5_at (agC va_rf (getR 10 7 (lvR 1)) (agC Value.int (addI (lvI 5) (ciI (iI 1))) agN)))) (seqS (lsI 7 (calX decI (ckS 4) mX7_pieceAmong (agC va_rf (lvR 1) (agC Value.int (lvI 2) (agC Value.int (calX decI (ckV 5 1) mX5_at (agC va_rf (getR 10 7 (lvR 1)) (agC Value.int (lvI 5) agN))) (agC Value.int (lvI 6) agN)))))) (ifS (neI (lvI 7) (ciI (iI (-1)))) (retI (lvI 7))))))) (incI 4 (iI 1)))
def bX7_pieceHad : St := (seqS (scS 4 (seqS (lsI 4 (ciI (iI 0))) (whileS lcX7_pieceHad_1 lbX7_pieceHad_1))) (retI (calX decI (ckS 4) mX7_pieceAmong (agC va_rf (lvR 1) (agC Value.int (lvI 2) (agC Value.int (lvI 3) (agC Value.int (calX decI (ckV 5 0) mX5_size (agC va_rf (getR 10 6 (lvR 1)) agN)) agN)))))))
theorem jX7_pieceHad : JS MX7_pieceHad 0 0 0 86 [] bX7_pieceHad :=
  (JS.seq (pc1 := 72) (JS.sc (JS.seq (pc1 := 3) (JS.is2 (pc1 := 1) (JX.ic (n := 0) rfl dX7_pieceHad_0) (show 4 < 8 by decide) dX7_pieceHad_1) (JS.while (l := 72) (lb := 72) (pc1 := 15) (pc2 := 69) (pc3 := 72) (CJ.lt_f (tgt := 72) (pc1 := 5) (pc2 := 12) (JX.il2 dX7_pieceHad_3) (JX.call (pc1 := 9) decI_ok (JA.r (JX.getR (pc1 := 6) (c := 7) (k := 5) (i := 30) (JX.al (k := 0) rfl dX7_pieceHad_5) cl7 (by decide) rfl fk7_30 dX7_pieceHad_6) JA.nil) aX5_size (RunK.V (i := 38) (c := 5) (n := 0) cl5 rfl (CN nX5_size (by decide) (by decide)) gw1173 gw587 gw588 dX7_pieceHad_9) (by decide)) dX7_pieceHad_12 rfl) (JS.forb (pc1 := 66) (JS.sc (JS.seq (pc1 := 26) (JS.is2 (pc1 := 24) (JX.call (pc1 := 21) decI_ok (JA.r (JX.getR (pc1 := 16) (c := 7) (k := 5) (i := 30) (JX.al (k := 0) rfl dX7_pieceHad_15) cl7 (by decide) rfl fk7_30 dX7_pieceHad_16) (JA.i (JX.il2 dX7_pieceHad_19) JA.nil)) aX5_at (RunK.V (i := 74) (c := 5) (n := 1) cl5 rfl (CN nX5_at (by decide) (by decide)) gw1188 gw595 gw596 dX7_pieceHad_21) (by decide)) (show 5 < 8 by decide) dX7_pieceHad_24) (JS.seq (pc1 := 39) (JS.is2 (pc1 := 37) (JX.call (pc1 := 34) decI_ok (JA.r (JX.getR (pc1 := 27) (c := 10) (k := 7) (i := 33) (JX.al (k := 1) rfl dX7_pieceHad_26) cl10 (by decide) rfl fk7_33 dX7_pieceHad_27) (JA.i (JX.iadd (pc1 := 32) (pc2 := 33) (JX.il2 dX7_pieceHad_30) (JX.ic (n := 1) rfl dX7_pieceHad_32) dX7_pieceHad_33) JA.nil)) aX5_at (RunK.V (i := 74) (c := 5) (n := 1) cl5 rfl (CN nX5_at (by decide) (by decide)) gw1188 gw595 gw596 dX7_pieceHad_34) (by decide)) (show 6 < 8 by decide) dX7_pieceHad_37) (JS.seq (pc1 := 57) (JS.is2 (pc1 := 55) (JX.call (pc1 := 52) decI_ok (JA.r (JX.al (k := 1) rfl dX7_pieceHad_39) (JA.i (JX.il (k := 2) rfl dX7_pieceHad_40) (JA.i (JX.call (pc1 := 47) decI_ok (JA.r (JX.getR (pc1 := 42) (c := 10) (k := 7) (i := 33) (JX.al (k := 1) rfl dX7_pieceHad_41) cl10 (by decide) rfl fk7_33 dX7_pieceHad_42) (JA.i (JX.il2 dX7_pieceHad_45) JA.nil)) aX5_at (RunK.V (i := 74) (c := 5) (n := 1) cl5 rfl (CN nX5_at (by decide) (by decide)) gw1188 gw595 gw596 dX7_pieceHad_47) (by decide)) (JA.i (JX.il2 dX7_pieceHad_50) JA.nil)))) aX7_pieceAmong (RunK.S (i := 139) (n := 4) (CN nX7_pieceAmong (by decide) (by decide)) gw1216 gw1217 dX7_pieceHad_52) (by decide)) (show 7 < 8 by decide) dX7_pieceHad_55) (JS.iff (l := 66) (pc1 := 63) (CJ.ne_f (tgt := 66) (pc1 := 59) (pc2 := 60) (JX.il2 dX7_pieceHad_57) (JX.ic (n := (-1)) rfl dX7_pieceHad_59) dX7_pieceHad_60 rfl) (JS.retI (pc1 := 65) (JX.il2 dX7_pieceHad_63) dX7_pieceHad_65) (Or.inl rfl)))))) (JS.inc (n := 1) rfl (show 4 < 8 by decide) dX7_pieceHad_66)) dX7_pieceHad_69 rfl (Or.inl rfl) (Or.inl rfl)))) (JS.retI (pc1 := 85) (JX.call (pc1 := 82) decI_ok (JA.r (JX.al (k := 1) rfl dX7_pieceHad_72) (JA.i (JX.il (k := 2) rfl dX7_pieceHad_73) (JA.i (JX.il (k := 3) rfl dX7_pieceHad_74) (JA.i (JX.call (pc1 := 79) decI_ok (JA.r (JX.getR (pc1 := 76) (c := 10) (k := 6) (i := 42) (JX.al (k := 1) rfl dX7_pieceHad_75) cl10 (by decide) rfl fk7_42 dX7_pieceHad_76) JA.nil) aX5_size (RunK.V (i := 38) (c := 5) (n := 0) cl5 rfl (CN nX5_size (by decide) (by decide)) gw1173 gw587 gw588 dX7_pieceHad_79) (by decide)) JA.nil)))) aX7_pieceAmong (RunK.S (i := 139) (n := 4) (CN nX7_pieceAmong (by decide) (by decide)) gw1216 gw1217 dX7_pieceHad_82) (by decide)) dX7_pieceHad_85))
def mX7_pieceHad : MS := runM 8 (some (.int)) bX7_pieceHad
theorem aX7_pieceHad : MA yX7_pieceHad cX7_pieceHad 8 (some (.int)) 3 mX7_pieceHad := MA.of (plainFor_of_name (by decide)) jX7_pieceHad
theorem eX7_pieceHad (a0 : Nat) (a1 : Nat) (a2 : Int32) (a3 : Int32) (h : AH) : mX7_pieceHad [.ref a0, .ref a1, .int a2, .int a3] h = (bX7_pieceHad [.val (.ref a0), .val (.ref a1), .val (.int a2), .val (.int a3), .unset, .unset, .unset, .unset] h).bind (finM (some (.int))) := rfl
/-! Saver.readHooks -/
theorem dX7_readHooks_0 : decode cX7_readHooks 0 = .ok (.aload_n 0, 1) := by decide +kernel
theorem dX7_readHooks_1 : decode cX7_readHooks 1 = .ok (.getfield 24, 3) := by decide +kernel
theorem dX7_readHooks_4 : decode cX7_readHooks 4 = .ok (.invokevirtual 87, 3) := by decide +kernel
theorem dX7_readHooks_7 : decode cX7_readHooks 7 = .ok (.aload_n 0, 1) := by decide +kernel
theorem dX7_readHooks_8 : decode cX7_readHooks 8 = .ok (.getfield 27, 3) := by decide +kernel
theorem dX7_readHooks_11 : decode cX7_readHooks 11 = .ok (.invokevirtual 87, 3) := by decide +kernel
theorem dX7_readHooks_14 : decode cX7_readHooks 14 = .ok (.iconst 0, 1) := by decide +kernel
theorem dX7_readHooks_15 : decode cX7_readHooks 15 = .ok (.istore_n 2, 1) := by decide +kernel
theorem dX7_readHooks_16 : decode cX7_readHooks 16 = .ok (.iload_n 2, 1) := by decide +kernel
theorem dX7_readHooks_17 : decode cX7_readHooks 17 = .ok (.aload_n 0, 1) := by decide +kernel
theorem dX7_readHooks_18 : decode cX7_readHooks 18 = .ok (.getfield 18, 3) := by decide +kernel
theorem dX7_readHooks_21 : decode cX7_readHooks 21 = .ok (.invokevirtual 38, 3) := by decide +kernel
theorem dX7_readHooks_24 : decode cX7_readHooks 24 = .ok (.if_icmp .ge 65, 3) := by decide +kernel
theorem dX7_readHooks_27 : decode cX7_readHooks 27 = .ok (.aload_n 0, 1) := by decide +kernel
theorem dX7_readHooks_28 : decode cX7_readHooks 28 = .ok (.getfield 18, 3) := by decide +kernel
theorem dX7_readHooks_31 : decode cX7_readHooks 31 = .ok (.iload_n 2, 1) := by decide +kernel
theorem dX7_readHooks_32 : decode cX7_readHooks 32 = .ok (.invokevirtual 74, 3) := by decide +kernel
theorem dX7_readHooks_35 : decode cX7_readHooks 35 = .ok (.istore_n 3, 1) := by decide +kernel
theorem dX7_readHooks_36 : decode cX7_readHooks 36 = .ok (.aload_n 0, 1) := by decide +kernel
theorem dX7_readHooks_37 : decode cX7_readHooks 37 = .ok (.getfield 21, 3) := by decide +kernel
theorem dX7_readHooks_40 : decode cX7_readHooks 40 = .ok (.iload_n 2, 1) := by decide +kernel
theorem dX7_readHooks_41 : decode cX7_readHooks 41 = .ok (.invokevirtual 74, 3) := by decide +kernel
theorem dX7_readHooks_44 : decode cX7_readHooks 44 = .ok (.iconst 1, 1) := by decide +kernel
theorem dX7_readHooks_45 : decode cX7_readHooks 45 = .ok (.if_icmp .ne 38, 3) := by decide +kernel
theorem dX7_readHooks_48 : decode cX7_readHooks 48 = .ok (.aload_n 0, 1) := by decide +kernel
theorem dX7_readHooks_49 : decode cX7_readHooks 49 = .ok (.getfield 24, 3) := by decide +kernel
theorem dX7_readHooks_52 : decode cX7_readHooks 52 = .ok (.iload_n 3, 1) := by decide +kernel
theorem dX7_readHooks_53 : decode cX7_readHooks 53 = .ok (.invokevirtual 127, 3) := by decide +kernel
theorem dX7_readHooks_56 : decode cX7_readHooks 56 = .ok (.iconst (-1), 1) := by decide +kernel
theorem dX7_readHooks_57 : decode cX7_readHooks 57 = .ok (.if_icmp .ne 26, 3) := by decide +kernel
theorem dX7_readHooks_60 : decode cX7_readHooks 60 = .ok (.aload_n 0, 1) := by decide +kernel
theorem dX7_readHooks_61 : decode cX7_readHooks 61 = .ok (.getfield 24, 3) := by decide +kernel
theorem dX7_readHooks_64 : decode cX7_readHooks 64 = .ok (.iload_n 3, 1) := by decide +kernel
theorem dX7_readHooks_65 : decode cX7_readHooks 65 = .ok (.invokevirtual 71, 3) := by decide +kernel
theorem dX7_readHooks_68 : decode cX7_readHooks 68 = .ok (.aload_n 0, 1) := by decide +kernel
theorem dX7_readHooks_69 : decode cX7_readHooks 69 = .ok (.getfield 27, 3) := by decide +kernel
theorem dX7_readHooks_72 : decode cX7_readHooks 72 = .ok (.aload_n 1, 1) := by decide +kernel
theorem dX7_readHooks_73 : decode cX7_readHooks 73 = .ok (.getfield 130, 3) := by decide +kernel
theorem dX7_readHooks_76 : decode cX7_readHooks 76 = .ok (.iload_n 3, 1) := by decide +kernel
theorem dX7_readHooks_77 : decode cX7_readHooks 77 = .ok (.invokevirtual 74, 3) := by decide +kernel
theorem dX7_readHooks_80 : decode cX7_readHooks 80 = .ok (.invokevirtual 71, 3) := by decide +kernel
theorem dX7_readHooks_83 : decode cX7_readHooks 83 = .ok (.iinc 2 1, 3) := by decide +kernel
theorem dX7_readHooks_86 : decode cX7_readHooks 86 = .ok (.goto (-70), 3) := by decide +kernel
theorem dX7_readHooks_89 : decode cX7_readHooks 89 = .ok (.return_, 1) := by decide +kernel
abbrev MX7_readHooks : MI := (RX7, cX7_readHooks, 4, 3, false)
def lcX7_readHooks_1 : Ex Bool := (ltI (lvI 2) (calX decI (ckV 5 0) mX5_size (agC va_rf (getR 7 1 (lvR 0)) agN)))
def lbX7_readHooks_1 : St := (forB (scS 3 (seqS (lsI 3 (calX decI (ckV 5 1) mX5_at (agC va_rf (getR 7 1 (lvR 0)) (agC Value.int (lvI 2) agN)))) (ifS (andX (eqI (calX decI (ckV 5 1) mX5_at (agC va_rf (getR 7 2 (lvR 0)) (agC Value.int (lvI 2) agN))) (ciI (iI 1))) (eqI (calX decI (ckV 5 1) mX5_indexOf (agC va_rf (getR 7 3 (lvR 0)) (agC Value.int (lvI 3) agN))) (ciI (iI (-1))))) (seqS (calS (ckV 5 1) mX5_add (agC va_rf (getR 7 3 (lvR 0)) (agC Value.int (lvI 3) agN))) (calS (ckV 5 1) mX5_add (agC va_rf (getR 7 4 (lvR 0)) (agC Value.int (calX decI (ckV 5 1) mX5_at (agC va_rf (getR 3 6 (lvR 1)) (agC Value.int (lvI 3) agN))) agN))))))) (incI 2 (iI 1)))
def bX7_readHooks : St := (seqS (calS (ckV 5 0) mX5_clear (agC va_rf (getR 7 3 (lvR 0)) agN)) (seqS (calS (ckV 5 0) mX5_clear (agC va_rf (getR 7 4 (lvR 0)) agN)) (seqS (scS 2 (seqS (lsI 2 (ciI (iI 0))) (whileS lcX7_readHooks_1 lbX7_readHooks_1))) retV)))
theorem jX7_readHooks : JS MX7_readHooks 0 0 0 90 [] bX7_readHooks :=
  (JS.seq (pc1 := 7) (JS.call (pc1 := 4) (JA.r (JX.getR (pc1 := 1) (c := 7) (k := 3) (i := 24) (JX.al (k := 0) rfl dX7_readHooks_0) cl7 (by decide) rfl fk7_24 dX7_readHooks_1) JA.nil) aX5_clear (RunK.V (i := 87) (c := 5) (n := 0) cl5 rfl (CN nX5_clear (by decide) (by decide)) gw1178 gw209 gw210 dX7_readHooks_4)) (JS.seq (pc1 := 14) (JS.call (pc1 := 11) (JA.r (JX.getR (pc1 := 8) (c := 7) (k := 4) (i := 27) (JX.al (k := 0) rfl dX7_readHooks_7) cl7 (by decide) rfl fk7_27 dX7_readHooks_8) JA.nil) aX5_clear (RunK.V (i := 87) (c := 5) (n := 0) cl5 rfl (CN nX5_clear (by decide) (by decide)) gw1178 gw209 gw210 dX7_readHooks_11)) (JS.seq (pc1 := 89) (JS.sc (JS.seq (pc1 := 16) (JS.is (pc1 := 15) (k := 2) (JX.ic (n := 0) rfl dX7_readHooks_14) rfl (show 2 < 4 by decide) dX7_readHooks_15) (JS.while (l := 89) (lb := 89) (pc1 := 27) (pc2 := 86) (pc3 := 89) (CJ.lt_f (tgt := 89) (pc1 := 17) (pc2 := 24) (JX.il (k := 2) rfl dX7_readHooks_16) (JX.call (pc1 := 21) decI_ok (JA.r (JX.getR (pc1 := 18) (c := 7) (k := 1) (i := 18) (JX.al (k := 0) rfl dX7_readHooks_17) cl7 (by decide) rfl fk7_18 dX7_readHooks_18) JA.nil) aX5_size (RunK.V (i := 38) (c := 5) (n := 0) cl5 rfl (CN nX5_size (by decide) (by decide)) gw1173 gw587 gw588 dX7_readHooks_21) (by decide)) dX7_readHooks_24 rfl) (JS.forb (pc1 := 83) (JS.sc (JS.seq (pc1 := 36) (JS.is (pc1 := 35) (k := 3) (JX.call (pc1 := 32) decI_ok (JA.r (JX.getR (pc1 := 28) (c := 7) (k := 1) (i := 18) (JX.al (k := 0) rfl dX7_readHooks_27) cl7 (by decide) rfl fk7_18 dX7_readHooks_28) (JA.i (JX.il (k := 2) rfl dX7_readHooks_31) JA.nil)) aX5_at (RunK.V (i := 74) (c := 5) (n := 1) cl5 rfl (CN nX5_at (by decide) (by decide)) gw1188 gw595 gw596 dX7_readHooks_32) (by decide)) rfl (show 3 < 4 by decide) dX7_readHooks_35) (JS.iff (l := 83) (pc1 := 60) (CJ.and_f (pc1 := 48) (CJ.eq_f (tgt := 83) (pc1 := 44) (pc2 := 45) (JX.call (pc1 := 41) decI_ok (JA.r (JX.getR (pc1 := 37) (c := 7) (k := 2) (i := 21) (JX.al (k := 0) rfl dX7_readHooks_36) cl7 (by decide) rfl fk7_21 dX7_readHooks_37) (JA.i (JX.il (k := 2) rfl dX7_readHooks_40) JA.nil)) aX5_at (RunK.V (i := 74) (c := 5) (n := 1) cl5 rfl (CN nX5_at (by decide) (by decide)) gw1188 gw595 gw596 dX7_readHooks_41) (by decide)) (JX.ic (n := 1) rfl dX7_readHooks_44) dX7_readHooks_45 rfl) (CJ.eq_f (tgt := 83) (pc1 := 56) (pc2 := 57) (JX.call (pc1 := 53) decI_ok (JA.r (JX.getR (pc1 := 49) (c := 7) (k := 3) (i := 24) (JX.al (k := 0) rfl dX7_readHooks_48) cl7 (by decide) rfl fk7_24 dX7_readHooks_49) (JA.i (JX.il (k := 3) rfl dX7_readHooks_52) JA.nil)) aX5_indexOf (RunK.V (i := 127) (c := 5) (n := 1) cl5 rfl (CN nX5_indexOf (by decide) (by decide)) gw1198 gw649 gw650 dX7_readHooks_53) (by decide)) (JX.ic (n := (-1)) rfl dX7_readHooks_56) dX7_readHooks_57 rfl)) (JS.seq (pc1 := 68) (JS.call (pc1 := 65) (JA.r (JX.getR (pc1 := 61) (c := 7) (k := 3) (i := 24) (JX.al (k := 0) rfl dX7_readHooks_60) cl7 (by decide) rfl fk7_24 dX7_readHooks_61) (JA.i (JX.il (k := 3) rfl dX7_readHooks_64) JA.nil)) aX5_add (RunK.V (i := 71) (c := 5) (n := 1) cl5 rfl (CN nX5_add (by decide) (by decide)) gw1189 gw121 gw122 dX7_readHooks_65)) (JS.call (pc1 := 80) (JA.r (JX.getR (pc1 := 69) (c := 7) (k := 4) (i := 27) (JX.al (k := 0) rfl dX7_readHooks_68) cl7 (by decide) rfl fk7_27 dX7_readHooks_69) (JA.i (JX.call (pc1 := 77) decI_ok (JA.r (JX.getR (pc1 := 73) (c := 3) (k := 6) (i := 130) (JX.al (k := 1) rfl dX7_readHooks_72) cl3 (by decide) rfl fk7_130 dX7_readHooks_73) (JA.i (JX.il (k := 3) rfl dX7_readHooks_76) JA.nil)) aX5_at (RunK.V (i := 74) (c := 5) (n := 1) cl5 rfl (CN nX5_at (by decide) (by decide)) gw1188 gw595 gw596 dX7_readHooks_77) (by decide)) JA.nil)) aX5_add (RunK.V (i := 71) (c := 5) (n := 1) cl5 rfl (CN nX5_add (by decide) (by decide)) gw1189 gw121 gw122 dX7_readHooks_80))) (Or.inl rfl)))) (JS.inc (n := 1) rfl (show 2 < 4 by decide) dX7_readHooks_83)) dX7_readHooks_86 rfl (Or.inl rfl) (Or.inl rfl)))) (JS.retV dX7_readHooks_89))))
def mX7_readHooks : MS := runM 4 none bX7_readHooks
theorem aX7_readHooks : MA yX7_readHooks cX7_readHooks 4 none 3 mX7_readHooks := MA.of (plainFor_of_name (by decide)) jX7_readHooks
theorem eX7_readHooks (a0 : Nat) (a1 : Nat) (h : AH) : mX7_readHooks [.ref a0, .ref a1] h = (bX7_readHooks [.val (.ref a0), .val (.ref a1), .unset, .unset] h).bind (finM none) := rfl
/-! Forms.findOrAdd -/
theorem dX3_findOrAdd_0 : decode cX3_findOrAdd 0 = .ok (.aload_n 0, 1) := by decide +kernel
theorem dX3_findOrAdd_1 : decode cX3_findOrAdd 1 = .ok (.aload_n 1, 1) := by decide +kernel
theorem dX3_findOrAdd_2 : decode cX3_findOrAdd 2 = .ok (.iload_n 2, 1) := by decide +kernel
theorem dX3_findOrAdd_3 : decode cX3_findOrAdd 3 = .ok (.iload_n 3, 1) := by decide +kernel
theorem dX3_findOrAdd_4 : decode cX3_findOrAdd 4 = .ok (.invokevirtual 59, 3) := by decide +kernel
theorem dX3_findOrAdd_7 : decode cX3_findOrAdd 7 = .ok (.istore 4, 2) := by decide +kernel
theorem dX3_findOrAdd_9 : decode cX3_findOrAdd 9 = .ok (.iload 4, 2) := by decide +kernel
theorem dX3_findOrAdd_11 : decode cX3_findOrAdd 11 = .ok (.iconst (-1), 1) := by decide +kernel
theorem dX3_findOrAdd_12 : decode cX3_findOrAdd 12 = .ok (.if_icmp .eq 6, 3) := by decide +kernel
theorem dX3_findOrAdd_15 : decode cX3_findOrAdd 15 = .ok (.iload 4, 2) := by decide +kernel
theorem dX3_findOrAdd_17 : decode cX3_findOrAdd 17 = .ok (.ireturn, 1) := by decide +kernel
theorem dX3_findOrAdd_18 : decode cX3_findOrAdd 18 = .ok (.aload_n 0, 1) := by decide +kernel
theorem dX3_findOrAdd_19 : decode cX3_findOrAdd 19 = .ok (.getfield 18, 3) := by decide +kernel
theorem dX3_findOrAdd_22 : decode cX3_findOrAdd 22 = .ok (.invokevirtual 62, 3) := by decide +kernel
theorem dX3_findOrAdd_25 : decode cX3_findOrAdd 25 = .ok (.istore 5, 2) := by decide +kernel
theorem dX3_findOrAdd_27 : decode cX3_findOrAdd 27 = .ok (.aload_n 1, 1) := by decide +kernel
theorem dX3_findOrAdd_28 : decode cX3_findOrAdd 28 = .ok (.iload_n 2, 1) := by decide +kernel
theorem dX3_findOrAdd_29 : decode cX3_findOrAdd 29 = .ok (.iload_n 3, 1) := by decide +kernel
theorem dX3_findOrAdd_30 : decode cX3_findOrAdd 30 = .ok (.invokestatic 51, 3) := by decide +kernel
theorem dX3_findOrAdd_33 : decode cX3_findOrAdd 33 = .ok (.istore 6, 2) := by decide +kernel
theorem dX3_findOrAdd_35 : decode cX3_findOrAdd 35 = .ok (.aload_n 0, 1) := by decide +kernel
theorem dX3_findOrAdd_36 : decode cX3_findOrAdd 36 = .ok (.getfield 18, 3) := by decide +kernel
theorem dX3_findOrAdd_39 : decode cX3_findOrAdd 39 = .ok (.aload_n 0, 1) := by decide +kernel
theorem dX3_findOrAdd_40 : decode cX3_findOrAdd 40 = .ok (.getfield 12, 3) := by decide +kernel
theorem dX3_findOrAdd_43 : decode cX3_findOrAdd 43 = .ok (.invokevirtual 62, 3) := by decide +kernel
theorem dX3_findOrAdd_46 : decode cX3_findOrAdd 46 = .ok (.invokevirtual 66, 3) := by decide +kernel
theorem dX3_findOrAdd_49 : decode cX3_findOrAdd 49 = .ok (.iconst 0, 1) := by decide +kernel
theorem dX3_findOrAdd_50 : decode cX3_findOrAdd 50 = .ok (.istore 7, 2) := by decide +kernel
theorem dX3_findOrAdd_52 : decode cX3_findOrAdd 52 = .ok (.iload 7, 2) := by decide +kernel
theorem dX3_findOrAdd_54 : decode cX3_findOrAdd 54 = .ok (.iload_n 3, 1) := by decide +kernel
theorem dX3_findOrAdd_55 : decode cX3_findOrAdd 55 = .ok (.if_icmp .ge 24, 3) := by decide +kernel
theorem dX3_findOrAdd_58 : decode cX3_findOrAdd 58 = .ok (.aload_n 0, 1) := by decide +kernel
theorem dX3_findOrAdd_59 : decode cX3_findOrAdd 59 = .ok (.getfield 12, 3) := by decide +kernel
theorem dX3_findOrAdd_62 : decode cX3_findOrAdd 62 = .ok (.aload_n 1, 1) := by decide +kernel
theorem dX3_findOrAdd_63 : decode cX3_findOrAdd 63 = .ok (.iload_n 2, 1) := by decide +kernel
theorem dX3_findOrAdd_64 : decode cX3_findOrAdd 64 = .ok (.iload 7, 2) := by decide +kernel
theorem dX3_findOrAdd_66 : decode cX3_findOrAdd 66 = .ok (.iadd, 1) := by decide +kernel
theorem dX3_findOrAdd_67 : decode cX3_findOrAdd 67 = .ok (.invokevirtual 46, 3) := by decide +kernel
theorem dX3_findOrAdd_70 : decode cX3_findOrAdd 70 = .ok (.invokevirtual 66, 3) := by decide +kernel
theorem dX3_findOrAdd_73 : decode cX3_findOrAdd 73 = .ok (.iinc 7 1, 3) := by decide +kernel
theorem dX3_findOrAdd_76 : decode cX3_findOrAdd 76 = .ok (.goto (-24), 3) := by decide +kernel
theorem dX3_findOrAdd_79 : decode cX3_findOrAdd 79 = .ok (.aload_n 0, 1) := by decide +kernel
theorem dX3_findOrAdd_80 : decode cX3_findOrAdd 80 = .ok (.getfield 21, 3) := by decide +kernel
theorem dX3_findOrAdd_83 : decode cX3_findOrAdd 83 = .ok (.iload_n 3, 1) := by decide +kernel
theorem dX3_findOrAdd_84 : decode cX3_findOrAdd 84 = .ok (.invokevirtual 66, 3) := by decide +kernel
theorem dX3_findOrAdd_87 : decode cX3_findOrAdd 87 = .ok (.aload_n 0, 1) := by decide +kernel
theorem dX3_findOrAdd_88 : decode cX3_findOrAdd 88 = .ok (.getfield 24, 3) := by decide +kernel
theorem dX3_findOrAdd_91 : decode cX3_findOrAdd 91 = .ok (.iload 6, 2) := by decide +kernel
theorem dX3_findOrAdd_93 : decode cX3_findOrAdd 93 = .ok (.invokevirtual 66, 3) := by decide +kernel
theorem dX3_findOrAdd_96 : decode cX3_findOrAdd 96 = .ok (.aload_n 0, 1) := by decide +kernel
theorem dX3_findOrAdd_97 : decode cX3_findOrAdd 97 = .ok (.getfield 30, 3) := by decide +kernel
theorem dX3_findOrAdd_100 : decode cX3_findOrAdd 100 = .ok (.aload_n 0, 1) := by decide +kernel
theorem dX3_findOrAdd_101 : decode cX3_findOrAdd 101 = .ok (.getfield 27, 3) := by decide +kernel
theorem dX3_findOrAdd_104 : decode cX3_findOrAdd 104 = .ok (.iload 6, 2) := by decide +kernel
theorem dX3_findOrAdd_106 : decode cX3_findOrAdd 106 = .ok (.sipush 255, 3) := by decide +kernel
theorem dX3_findOrAdd_109 : decode cX3_findOrAdd 109 = .ok (.iand, 1) := by decide +kernel
theorem dX3_findOrAdd_110 : decode cX3_findOrAdd 110 = .ok (.invokevirtual 46, 3) := by decide +kernel
theorem dX3_findOrAdd_113 : decode cX3_findOrAdd 113 = .ok (.invokevirtual 66, 3) := by decide +kernel
theorem dX3_findOrAdd_116 : decode cX3_findOrAdd 116 = .ok (.aload_n 0, 1) := by decide +kernel
theorem dX3_findOrAdd_117 : decode cX3_findOrAdd 117 = .ok (.getfield 27, 3) := by decide +kernel
theorem dX3_findOrAdd_120 : decode cX3_findOrAdd 120 = .ok (.iload 6, 2) := by decide +kernel
theorem dX3_findOrAdd_122 : decode cX3_findOrAdd 122 = .ok (.sipush 255, 3) := by decide +kernel
theorem dX3_findOrAdd_125 : decode cX3_findOrAdd 125 = .ok (.iand, 1) := by decide +kernel
theorem dX3_findOrAdd_126 : decode cX3_findOrAdd 126 = .ok (.iload 5, 2) := by decide +kernel
theorem dX3_findOrAdd_128 : decode cX3_findOrAdd 128 = .ok (.invokevirtual 70, 3) := by decide +kernel
theorem dX3_findOrAdd_131 : decode cX3_findOrAdd 131 = .ok (.aload_n 0, 1) := by decide +kernel
theorem dX3_findOrAdd_132 : decode cX3_findOrAdd 132 = .ok (.getfield 33, 3) := by decide +kernel
theorem dX3_findOrAdd_135 : decode cX3_findOrAdd 135 = .ok (.iconst (-1), 1) := by decide +kernel
theorem dX3_findOrAdd_136 : decode cX3_findOrAdd 136 = .ok (.invokevirtual 66, 3) := by decide +kernel
theorem dX3_findOrAdd_139 : decode cX3_findOrAdd 139 = .ok (.aload_n 0, 1) := by decide +kernel
theorem dX3_findOrAdd_140 : decode cX3_findOrAdd 140 = .ok (.getfield 36, 3) := by decide +kernel
theorem dX3_findOrAdd_143 : decode cX3_findOrAdd 143 = .ok (.iconst 0, 1) := by decide +kernel
theorem dX3_findOrAdd_144 : decode cX3_findOrAdd 144 = .ok (.invokevirtual 66, 3) := by decide +kernel
theorem dX3_findOrAdd_147 : decode cX3_findOrAdd 147 = .ok (.iload 5, 2) := by decide +kernel
theorem dX3_findOrAdd_149 : decode cX3_findOrAdd 149 = .ok (.ireturn, 1) := by decide +kernel
abbrev MX3_findOrAdd : MI := (RX3, cX3_findOrAdd, 8, 4, false)
def lcX3_findOrAdd_1 : Ex Bool := (ltI (lvI 7) (lvI 3))
def lbX3_findOrAdd_1 : St := (forB (calS (ckV 5 1) mX5_add (agC va_rf (getR 3 0 (lvR 0)) (agC Value.int (calX decI (ckV 5 1) mX5_at (agC va_rf (lvR 1) (agC Value.int (addI (lvI 2) (lvI 7)) agN))) agN))) (incI 7 (iI 1)))
def bX3_findOrAdd : St := (seqS (lsI 4 (calX decI (ckV 3 3) mX3_find (agC va_rf (lvR 0) (agC va_rf (lvR 1) (agC Value.int (lvI 2) (agC Value.int (lvI 3) agN)))))) (seqS (ifS (neI (lvI 4) (ciI (iI (-1)))) (retI (lvI 4))) (seqS (lsI 5 (calX decI (ckV 5 0) mX5_size (agC va_rf (getR 3 1 (lvR 0)) agN))) (seqS (lsI 6 (calX decI (ckS 3) mX3_printOf (agC va_rf (lvR 1) (agC Value.int (lvI 2) (agC Value.int (lvI 3) agN))))) (seqS (calS (ckV 5 1) mX5_add (agC va_rf (getR 3 1 (lvR 0)) (agC Value.int (calX decI (ckV 5 0) mX5_size (agC va_rf (getR 3 0 (lvR 0)) agN)) agN))) (seqS (scS 7 (seqS (lsI 7 (ciI (iI 0))) (whileS lcX3_findOrAdd_1 lbX3_findOrAdd_1))) (seqS (calS (ckV 5 1) mX5_add (agC va_rf (getR 3 2 (lvR 0)) (agC Value.int (lvI 3) agN))) (seqS (calS (ckV 5 1) mX5_add (agC va_rf (getR 3 3 (lvR 0)) (agC Value.int (lvI 6) agN))) (seqS (calS (ckV 5 1) mX5_add (agC va_rf (getR 3 5 (lvR 0)) (agC Value.int (calX decI (ckV 5 1) mX5_at (agC va_rf (getR 3 4 (lvR 0)) (agC Value.int (andI (lvI 6) (ciI (iI 255))) agN))) agN))) (seqS (calS (ckV 5 2) mX5_put (agC va_rf (getR 3 4 (lvR 0)) (agC Value.int (andI (lvI 6) (ciI (iI 255))) (agC Value.int (lvI 5) agN)))) (seqS (calS (ckV 5 1) mX5_add (agC va_rf (getR 3 6 (lvR 0)) (agC Value.int (ciI (iI (-1))) agN))) (seqS (calS (ckV 5 1) mX5_add (agC va_rf (getR 3 7 (lvR 0)) (agC Value.int (ciI (iI 0)) agN))) (retI (lvI 5))))))))))))))
theorem jX3_findOrAdd : JS MX3_findOrAdd 0 0 0 150 [] bX3_findOrAdd :=
  (JS.seq (pc1 := 9) (JS.is2 (pc1 := 7) (JX.call (pc1 := 4) decI_ok (JA.r (JX.al (k := 0) rfl dX3_findOrAdd_0) (JA.r (JX.al (k := 1) rfl dX3_findOrAdd_1) (JA.i (JX.il (k := 2) rfl dX3_findOrAdd_2) (JA.i (JX.il (k := 3) rfl dX3_findOrAdd_3) JA.nil)))) aX3_find (RunK.V (i := 59) (c := 3) (n := 3) cl3 rfl (CN nX3_find (by decide) (by decide)) gw1185 gw972 gw973 dX3_findOrAdd_4) (by decide)) (show 4 < 8 by decide) dX3_findOrAdd_7) (JS.seq (pc1 := 18) (JS.iff (l := 18) (pc1 := 15) (CJ.ne_f (tgt := 18) (pc1 := 11) (pc2 := 12) (JX.il2 dX3_findOrAdd_9) (JX.ic (n := (-1)) rfl dX3_findOrAdd_11) dX3_findOrAdd_12 rfl) (JS.retI (pc1 := 17) (JX.il2 dX3_findOrAdd_15) dX3_findOrAdd_17) (Or.inl rfl)) (JS.seq (pc1 := 27) (JS.is2 (pc1 := 25) (JX.call (pc1 := 22) decI_ok (JA.r (JX.getR (pc1 := 19) (c := 3) (k := 1) (i := 18) (JX.al (k := 0) rfl dX3_findOrAdd_18) cl3 (by decide) rfl fk3_18 dX3_findOrAdd_19) JA.nil) aX5_size (RunK.V (i := 62) (c := 5) (n := 0) cl5 rfl (CN nX5_size (by decide) (by decide)) gw1186 gw587 gw588 dX3_findOrAdd_22) (by decide)) (show 5 < 8 by decide) dX3_findOrAdd_25) (JS.seq (pc1 := 35) (JS.is2 (pc1 := 33) (JX.call (pc1 := 30) decI_ok (JA.r (JX.al (k := 1) rfl dX3_findOrAdd_27) (JA.i (JX.il (k := 2) rfl dX3_findOrAdd_28) (JA.i (JX.il (k := 3) rfl dX3_findOrAdd_29) JA.nil))) aX3_printOf (RunK.S (i := 51) (n := 3) (CN nX3_printOf (by decide) (by decide)) gw975 gw976 dX3_findOrAdd_30) (by decide)) (show 6 < 8 by decide) dX3_findOrAdd_33) (JS.seq (pc1 := 49) (JS.call (pc1 := 46) (JA.r (JX.getR (pc1 := 36) (c := 3) (k := 1) (i := 18) (JX.al (k := 0) rfl dX3_findOrAdd_35) cl3 (by decide) rfl fk3_18 dX3_findOrAdd_36) (JA.i (JX.call (pc1 := 43) decI_ok (JA.r (JX.getR (pc1 := 40) (c := 3) (k := 0) (i := 12) (JX.al (k := 0) rfl dX3_findOrAdd_39) cl3 (by decide) rfl fk3_12 dX3_findOrAdd_40) JA.nil) aX5_size (RunK.V (i := 62) (c := 5) (n := 0) cl5 rfl (CN nX5_size (by decide) (by decide)) gw1186 gw587 gw588 dX3_findOrAdd_43) (by decide)) JA.nil)) aX5_add (RunK.V (i := 66) (c := 5) (n := 1) cl5 rfl (CN nX5_add (by decide) (by decide)) gw906 gw121 gw122 dX3_findOrAdd_46)) (JS.seq (pc1 := 79) (JS.sc (JS.seq (pc1 := 52) (JS.is2 (pc1 := 50) (JX.ic (n := 0) rfl dX3_findOrAdd_49) (show 7 < 8 by decide) dX3_findOrAdd_50) (JS.while (l := 79) (lb := 79) (pc1 := 58) (pc2 := 76) (pc3 := 79) (CJ.lt_f (tgt := 79) (pc1 := 54) (pc2 := 55) (JX.il2 dX3_findOrAdd_52) (JX.il (k := 3) rfl dX3_findOrAdd_54) dX3_findOrAdd_55 rfl) (JS.forb (pc1 := 73) (JS.call (pc1 := 70) (JA.r (JX.getR (pc1 := 59) (c := 3) (k := 0) (i := 12) (JX.al (k := 0) rfl dX3_findOrAdd_58) cl3 (by decide) rfl fk3_12 dX3_findOrAdd_59) (JA.i (JX.call (pc1 := 67) decI_ok (JA.r (JX.al (k := 1) rfl dX3_findOrAdd_62) (JA.i (JX.iadd (pc1 := 64) (pc2 := 66) (JX.il (k := 2) rfl dX3_findOrAdd_63) (JX.il2 dX3_findOrAdd_64) dX3_findOrAdd_66) JA.nil)) aX5_at (RunK.V (i := 46) (c := 5) (n := 1) cl5 rfl (CN nX5_at (by decide) (by decide)) gw905 gw595 gw596 dX3_findOrAdd_67) (by decide)) JA.nil)) aX5_add (RunK.V (i := 66) (c := 5) (n := 1) cl5 rfl (CN nX5_add (by decide) (by decide)) gw906 gw121 gw122 dX3_findOrAdd_70)) (JS.inc (n := 1) rfl (show 7 < 8 by decide) dX3_findOrAdd_73)) dX3_findOrAdd_76 rfl (Or.inl rfl) (Or.inl rfl)))) (JS.seq (pc1 := 87) (JS.call (pc1 := 84) (JA.r (JX.getR (pc1 := 80) (c := 3) (k := 2) (i := 21) (JX.al (k := 0) rfl dX3_findOrAdd_79) cl3 (by decide) rfl fk3_21 dX3_findOrAdd_80) (JA.i (JX.il (k := 3) rfl dX3_findOrAdd_83) JA.nil)) aX5_add (RunK.V (i := 66) (c := 5) (n := 1) cl5 rfl (CN nX5_add (by decide) (by decide)) gw906 gw121 gw122 dX3_findOrAdd_84)) (JS.seq (pc1 := 96) (JS.call (pc1 := 93) (JA.r (JX.getR (pc1 := 88) (c := 3) (k := 3) (i := 24) (JX.al (k := 0) rfl dX3_findOrAdd_87) cl3 (by decide) rfl fk3_24 dX3_findOrAdd_88) (JA.i (JX.il2 dX3_findOrAdd_91) JA.nil)) aX5_add (RunK.V (i := 66) (c := 5) (n := 1) cl5 rfl (CN nX5_add (by decide) (by decide)) gw906 gw121 gw122 dX3_findOrAdd_93)) (JS.seq (pc1 := 116) (JS.call (pc1 := 113) (JA.r (JX.getR (pc1 := 97) (c := 3) (k := 5) (i := 30) (JX.al (k := 0) rfl dX3_findOrAdd_96) cl3 (by decide) rfl fk3_30 dX3_findOrAdd_97) (JA.i (JX.call (pc1 := 110) decI_ok (JA.r (JX.getR (pc1 := 101) (c := 3) (k := 4) (i := 27) (JX.al (k := 0) rfl dX3_findOrAdd_100) cl3 (by decide) rfl fk3_27 dX3_findOrAdd_101) (JA.i (JX.iand (pc1 := 106) (pc2 := 109) (JX.il2 dX3_findOrAdd_104) (JX.sp (n := 255) ks255 dX3_findOrAdd_106) dX3_findOrAdd_109) JA.nil)) aX5_at (RunK.V (i := 46) (c := 5) (n := 1) cl5 rfl (CN nX5_at (by decide) (by decide)) gw905 gw595 gw596 dX3_findOrAdd_110) (by decide)) JA.nil)) aX5_add (RunK.V (i := 66) (c := 5) (n := 1) cl5 rfl (CN nX5_add (by decide) (by decide)) gw906 gw121 gw122 dX3_findOrAdd_113)) (JS.seq (pc1 := 131) (JS.call (pc1 := 128) (JA.r (JX.getR (pc1 := 117) (c := 3) (k := 4) (i := 27) (JX.al (k := 0) rfl dX3_findOrAdd_116) cl3 (by decide) rfl fk3_27 dX3_findOrAdd_117) (JA.i (JX.iand (pc1 := 122) (pc2 := 125) (JX.il2 dX3_findOrAdd_120) (JX.sp (n := 255) ks255 dX3_findOrAdd_122) dX3_findOrAdd_125) (JA.i (JX.il2 dX3_findOrAdd_126) JA.nil))) aX5_put (RunK.V (i := 70) (c := 5) (n := 2) cl5 rfl (CN nX5_put (by decide) (by decide)) gw1187 gw599 gw600 dX3_findOrAdd_128)) (JS.seq (pc1 := 139) (JS.call (pc1 := 136) (JA.r (JX.getR (pc1 := 132) (c := 3) (k := 6) (i := 33) (JX.al (k := 0) rfl dX3_findOrAdd_131) cl3 (by decide) rfl fk3_33 dX3_findOrAdd_132) (JA.i (JX.ic (n := (-1)) rfl dX3_findOrAdd_135) JA.nil)) aX5_add (RunK.V (i := 66) (c := 5) (n := 1) cl5 rfl (CN nX5_add (by decide) (by decide)) gw906 gw121 gw122 dX3_findOrAdd_136)) (JS.seq (pc1 := 147) (JS.call (pc1 := 144) (JA.r (JX.getR (pc1 := 140) (c := 3) (k := 7) (i := 36) (JX.al (k := 0) rfl dX3_findOrAdd_139) cl3 (by decide) rfl fk3_36 dX3_findOrAdd_140) (JA.i (JX.ic (n := 0) rfl dX3_findOrAdd_143) JA.nil)) aX5_add (RunK.V (i := 66) (c := 5) (n := 1) cl5 rfl (CN nX5_add (by decide) (by decide)) gw906 gw121 gw122 dX3_findOrAdd_144)) (JS.retI (pc1 := 149) (JX.il2 dX3_findOrAdd_147) dX3_findOrAdd_149)))))))))))))
def mX3_findOrAdd : MS := runM 8 (some (.int)) bX3_findOrAdd
theorem aX3_findOrAdd : MA yX3_findOrAdd cX3_findOrAdd 8 (some (.int)) 4 mX3_findOrAdd := MA.of (plainFor_of_name (by decide)) jX3_findOrAdd
theorem eX3_findOrAdd (a0 : Nat) (a1 : Nat) (a2 : Int32) (a3 : Int32) (h : AH) : mX3_findOrAdd [.ref a0, .ref a1, .int a2, .int a3] h = (bX3_findOrAdd [.val (.ref a0), .val (.ref a1), .val (.int a2), .val (.int a3), .unset, .unset, .unset, .unset] h).bind (finM (some (.int))) := rfl
