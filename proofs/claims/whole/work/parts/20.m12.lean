/-! ===== by program: mk20.py: methods ===== -/
/-! PieceStoreModel.stored -/
theorem dX12_stored_0 : decode cX12_stored 0 = .ok (.iconst 0, 1) := by decide +kernel
theorem dX12_stored_1 : decode cX12_stored 1 = .ok (.istore_n 1, 1) := by decide +kernel
theorem dX12_stored_2 : decode cX12_stored 2 = .ok (.iconst 0, 1) := by decide +kernel
theorem dX12_stored_3 : decode cX12_stored 3 = .ok (.istore_n 2, 1) := by decide +kernel
theorem dX12_stored_4 : decode cX12_stored 4 = .ok (.iload_n 2, 1) := by decide +kernel
theorem dX12_stored_5 : decode cX12_stored 5 = .ok (.aload_n 0, 1) := by decide +kernel
theorem dX12_stored_6 : decode cX12_stored 6 = .ok (.getfield 117, 3) := by decide +kernel
theorem dX12_stored_9 : decode cX12_stored 9 = .ok (.iconst 1, 1) := by decide +kernel
theorem dX12_stored_10 : decode cX12_stored 10 = .ok (.iaload, 1) := by decide +kernel
theorem dX12_stored_11 : decode cX12_stored 11 = .ok (.if_icmp .ge 25, 3) := by decide +kernel
theorem dX12_stored_14 : decode cX12_stored 14 = .ok (.iload_n 1, 1) := by decide +kernel
theorem dX12_stored_15 : decode cX12_stored 15 = .ok (.aload_n 0, 1) := by decide +kernel
theorem dX12_stored_16 : decode cX12_stored 16 = .ok (.iload_n 2, 1) := by decide +kernel
theorem dX12_stored_17 : decode cX12_stored 17 = .ok (.invokevirtual 441, 3) := by decide +kernel
theorem dX12_stored_20 : decode cX12_stored 20 = .ok (.ifCond .eq 7, 3) := by decide +kernel
theorem dX12_stored_23 : decode cX12_stored 23 = .ok (.iconst 1, 1) := by decide +kernel
theorem dX12_stored_24 : decode cX12_stored 24 = .ok (.goto 4, 3) := by decide +kernel
theorem dX12_stored_27 : decode cX12_stored 27 = .ok (.iconst 0, 1) := by decide +kernel
theorem dX12_stored_28 : decode cX12_stored 28 = .ok (.iadd, 1) := by decide +kernel
theorem dX12_stored_29 : decode cX12_stored 29 = .ok (.istore_n 1, 1) := by decide +kernel
theorem dX12_stored_30 : decode cX12_stored 30 = .ok (.iinc 2 1, 3) := by decide +kernel
theorem dX12_stored_33 : decode cX12_stored 33 = .ok (.goto (-29), 3) := by decide +kernel
theorem dX12_stored_36 : decode cX12_stored 36 = .ok (.iload_n 1, 1) := by decide +kernel
theorem dX12_stored_37 : decode cX12_stored 37 = .ok (.ireturn, 1) := by decide +kernel
abbrev MX12_stored : MI := (RX12, cX12_stored, 3, 2, false)
def lcX12_stored_1 : Ex Bool := (ltI (lvI 2) (aldI 2 (getR 12 34 (lvR 0)) (ciI (iI 1))))
def lbX12_stored_1 : St := (forB (lsI 1 (addI (lvI 1) (iteX (ne0 (calX decI (ckV 12 1) mX12_isThere (agC va_rf (lvR 0) (agC Value.int (lvI 2) agN)))) (ciI (iI 1)) (ciI (iI 0))))) (incI 2 (iI 1)))
def bX12_stored : St := (seqS (lsI 1 (ciI (iI 0))) (seqS (scS 2 (seqS (lsI 2 (ciI (iI 0))) (whileS lcX12_stored_1 lbX12_stored_1))) (retI (lvI 1))))
theorem jX12_stored : JS MX12_stored 0 0 0 38 [] bX12_stored :=
  (JS.seq (pc1 := 2) (JS.is (pc1 := 1) (k := 1) (JX.ic (n := 0) rfl dX12_stored_0) rfl (show 1 < 3 by decide) dX12_stored_1) (JS.seq (pc1 := 36) (JS.sc (JS.seq (pc1 := 4) (JS.is (pc1 := 3) (k := 2) (JX.ic (n := 0) rfl dX12_stored_2) rfl (show 2 < 3 by decide) dX12_stored_3) (JS.while (l := 36) (lb := 36) (pc1 := 14) (pc2 := 33) (pc3 := 36) (CJ.lt_f (tgt := 36) (pc1 := 5) (pc2 := 11) (JX.il (k := 2) rfl dX12_stored_4) (JX.iald (pc1 := 9) (pc2 := 10) (JX.getR (pc1 := 6) (c := 12) (k := 34) (i := 117) (JX.al (k := 0) rfl dX12_stored_5) cl12 (by decide) rfl fk12_117 dX12_stored_6) (JX.ic (n := 1) rfl dX12_stored_9) dX12_stored_10) dX12_stored_11 rfl) (JS.forb (pc1 := 30) (JS.is (pc1 := 29) (k := 1) (JX.iadd (pc1 := 15) (pc2 := 28) (JX.il (k := 1) rfl dX12_stored_14) (JX.ite (l := 27) (pc1 := 23) (pc2 := 24) (pc3 := 28) (lend := 28) (CJ.ne0_f (tgt := 27) (pc1 := 20) (JX.call (pc1 := 17) decI_ok (JA.r (JX.al (k := 0) rfl dX12_stored_15) (JA.i (JX.il (k := 2) rfl dX12_stored_16) JA.nil)) aX12_isThere (RunK.V (i := 441) (c := 12) (n := 1) cl12 rfl (CN nX12_isThere (by decide) (by decide)) gw1753 gw1755 gs90 dX12_stored_17) (by decide)) dX12_stored_20 rfl) (JX.ic (n := 1) rfl dX12_stored_23) dX12_stored_24 rfl (JX.ic (n := 0) rfl dX12_stored_27) (Or.inl rfl)) dX12_stored_28) rfl (show 1 < 3 by decide) dX12_stored_29) (JS.inc (n := 1) rfl (show 2 < 3 by decide) dX12_stored_30)) dX12_stored_33 rfl (Or.inl rfl) (Or.inl rfl)))) (JS.retI (pc1 := 37) (JX.il (k := 1) rfl dX12_stored_36) dX12_stored_37)))
def mX12_stored : MS := runM 3 (some (.int)) bX12_stored
theorem aX12_stored : MA yX12_stored cX12_stored 3 (some (.int)) 2 mX12_stored := MA.of (plainFor_of_name (by decide)) jX12_stored
theorem eX12_stored (a0 : Nat) (h : AH) : mX12_stored [.ref a0] h = (bX12_stored [.val (.ref a0), .unset, .unset] h).bind (finM (some (.int))) := rfl
/-! PieceStoreModel.isHook -/
theorem dX12_isHook_0 : decode cX12_isHook 0 = .ok (.aload_n 0, 1) := by decide +kernel
theorem dX12_isHook_1 : decode cX12_isHook 1 = .ok (.iload_n 1, 1) := by decide +kernel
theorem dX12_isHook_2 : decode cX12_isHook 2 = .ok (.invokevirtual 456, 3) := by decide +kernel
theorem dX12_isHook_5 : decode cX12_isHook 5 = .ok (.istore_n 2, 1) := by decide +kernel
theorem dX12_isHook_6 : decode cX12_isHook 6 = .ok (.aload_n 0, 1) := by decide +kernel
theorem dX12_isHook_7 : decode cX12_isHook 7 = .ok (.iconst 1, 1) := by decide +kernel
theorem dX12_isHook_8 : decode cX12_isHook 8 = .ok (.invokevirtual 411, 3) := by decide +kernel
theorem dX12_isHook_11 : decode cX12_isHook 11 = .ok (.ifCond .ne 15, 3) := by decide +kernel
theorem dX12_isHook_14 : decode cX12_isHook 14 = .ok (.iload_n 2, 1) := by decide +kernel
theorem dX12_isHook_15 : decode cX12_isHook 15 = .ok (.iconst 2, 1) := by decide +kernel
theorem dX12_isHook_16 : decode cX12_isHook 16 = .ok (.irem, 1) := by decide +kernel
theorem dX12_isHook_17 : decode cX12_isHook 17 = .ok (.ifCond .ne 7, 3) := by decide +kernel
theorem dX12_isHook_20 : decode cX12_isHook 20 = .ok (.iconst 1, 1) := by decide +kernel
theorem dX12_isHook_21 : decode cX12_isHook 21 = .ok (.goto 4, 3) := by decide +kernel
theorem dX12_isHook_24 : decode cX12_isHook 24 = .ok (.iconst 0, 1) := by decide +kernel
theorem dX12_isHook_25 : decode cX12_isHook 25 = .ok (.ireturn, 1) := by decide +kernel
theorem dX12_isHook_26 : decode cX12_isHook 26 = .ok (.aload_n 0, 1) := by decide +kernel
theorem dX12_isHook_27 : decode cX12_isHook 27 = .ok (.getfield 164, 3) := by decide +kernel
theorem dX12_isHook_30 : decode cX12_isHook 30 = .ok (.bipush 6, 2) := by decide +kernel
theorem dX12_isHook_32 : decode cX12_isHook 32 = .ok (.iload_n 2, 1) := by decide +kernel
theorem dX12_isHook_33 : decode cX12_isHook 33 = .ok (.iastore, 1) := by decide +kernel
theorem dX12_isHook_34 : decode cX12_isHook 34 = .ok (.aload_n 0, 1) := by decide +kernel
theorem dX12_isHook_35 : decode cX12_isHook 35 = .ok (.getfield 164, 3) := by decide +kernel
theorem dX12_isHook_38 : decode cX12_isHook 38 = .ok (.iconst 2, 1) := by decide +kernel
theorem dX12_isHook_39 : decode cX12_isHook 39 = .ok (.aload_n 0, 1) := by decide +kernel
theorem dX12_isHook_40 : decode cX12_isHook 40 = .ok (.iload_n 1, 1) := by decide +kernel
theorem dX12_isHook_41 : decode cX12_isHook 41 = .ok (.invokevirtual 429, 3) := by decide +kernel
theorem dX12_isHook_44 : decode cX12_isHook 44 = .ok (.iastore, 1) := by decide +kernel
theorem dX12_isHook_45 : decode cX12_isHook 45 = .ok (.aload_n 0, 1) := by decide +kernel
theorem dX12_isHook_46 : decode cX12_isHook 46 = .ok (.getfield 164, 3) := by decide +kernel
theorem dX12_isHook_49 : decode cX12_isHook 49 = .ok (.bipush 7, 2) := by decide +kernel
theorem dX12_isHook_51 : decode cX12_isHook 51 = .ok (.iload_n 1, 1) := by decide +kernel
theorem dX12_isHook_52 : decode cX12_isHook 52 = .ok (.iastore, 1) := by decide +kernel
theorem dX12_isHook_53 : decode cX12_isHook 53 = .ok (.aload_n 0, 1) := by decide +kernel
theorem dX12_isHook_54 : decode cX12_isHook 54 = .ok (.iconst 1, 1) := by decide +kernel
theorem dX12_isHook_55 : decode cX12_isHook 55 = .ok (.invokevirtual 417, 3) := by decide +kernel
theorem dX12_isHook_58 : decode cX12_isHook 58 = .ok (.ireturn, 1) := by decide +kernel
abbrev MX12_isHook : MI := (RX12, cX12_isHook, 3, 4, false)
def bX12_isHook : St := (seqS (lsI 2 (calX decI (ckV 12 1) mX12_printAt (agC va_rf (lvR 0) (agC Value.int (lvI 1) agN)))) (seqS (ifS (notX (ne0 (calX decI (ckV 12 1) mX12_isTold (agC va_rf (lvR 0) (agC Value.int (ciI (iI 1)) agN))))) (retI (iteX (eq0 (remI (lvI 2) (ciI (iI 2)))) (ciI (iI 1)) (ciI (iI 0))))) (seqS (astI (getR 12 49 (lvR 0)) (ciI (iI 6)) (lvI 2)) (seqS (astI (getR 12 49 (lvR 0)) (ciI (iI 2)) (calX decI (ckV 12 1) mX12_lengthAt (agC va_rf (lvR 0) (agC Value.int (lvI 1) agN)))) (seqS (astI (getR 12 49 (lvR 0)) (ciI (iI 7)) (lvI 1)) (retI (calX decI (ckV 12 1) mX12_holds (agC va_rf (lvR 0) (agC Value.int (ciI (iI 1)) agN)))))))))
theorem jX12_isHook : JS MX12_isHook 0 0 0 59 [] bX12_isHook :=
  (JS.seq (pc1 := 6) (JS.is (pc1 := 5) (k := 2) (JX.call (pc1 := 2) decI_ok (JA.r (JX.al (k := 0) rfl dX12_isHook_0) (JA.i (JX.il (k := 1) rfl dX12_isHook_1) JA.nil)) aX12_printAt (RunK.V (i := 456) (c := 12) (n := 1) cl12 rfl (CN nX12_printAt (by decide) (by decide)) gw1773 gw1775 gs95 dX12_isHook_2) (by decide)) rfl (show 2 < 3 by decide) dX12_isHook_5) (JS.seq (pc1 := 26) (JS.iff (l := 26) (pc1 := 14) (CJ.not_f (CJ.ne0_t (tgt := 26) (pc1 := 11) (JX.call (pc1 := 8) decI_ok (JA.r (JX.al (k := 0) rfl dX12_isHook_6) (JA.i (JX.ic (n := 1) rfl dX12_isHook_7) JA.nil)) aX12_isTold (RunK.V (i := 411) (c := 12) (n := 1) cl12 rfl (CN nX12_isTold (by decide) (by decide)) gw1730 gw1732 gs87 dX12_isHook_8) (by decide)) dX12_isHook_11 rfl)) (JS.retI (pc1 := 25) (JX.ite (l := 24) (pc1 := 20) (pc2 := 21) (pc3 := 25) (lend := 25) (CJ.eq0_f (tgt := 24) (pc1 := 17) (JX.irem (pc1 := 15) (pc2 := 16) (JX.il (k := 2) rfl dX12_isHook_14) (JX.ic (n := 2) rfl dX12_isHook_15) dX12_isHook_16) dX12_isHook_17 rfl) (JX.ic (n := 1) rfl dX12_isHook_20) dX12_isHook_21 rfl (JX.ic (n := 0) rfl dX12_isHook_24) (Or.inl rfl)) dX12_isHook_25) (Or.inl rfl)) (JS.seq (pc1 := 34) (JS.ia (pc1 := 30) (pc2 := 32) (pc3 := 33) (JX.getR (pc1 := 27) (c := 12) (k := 49) (i := 164) (JX.al (k := 0) rfl dX12_isHook_26) cl12 (by decide) rfl fk12_164 dX12_isHook_27) (JX.bp (n := 6) kb6 dX12_isHook_30) (JX.il (k := 2) rfl dX12_isHook_32) dX12_isHook_33) (JS.seq (pc1 := 45) (JS.ia (pc1 := 38) (pc2 := 39) (pc3 := 44) (JX.getR (pc1 := 35) (c := 12) (k := 49) (i := 164) (JX.al (k := 0) rfl dX12_isHook_34) cl12 (by decide) rfl fk12_164 dX12_isHook_35) (JX.ic (n := 2) rfl dX12_isHook_38) (JX.call (pc1 := 41) decI_ok (JA.r (JX.al (k := 0) rfl dX12_isHook_39) (JA.i (JX.il (k := 1) rfl dX12_isHook_40) JA.nil)) aX12_lengthAt (RunK.V (i := 429) (c := 12) (n := 1) cl12 rfl (CN nX12_lengthAt (by decide) (by decide)) gw1780 gw1782 gs96 dX12_isHook_41) (by decide)) dX12_isHook_44) (JS.seq (pc1 := 53) (JS.ia (pc1 := 49) (pc2 := 51) (pc3 := 52) (JX.getR (pc1 := 46) (c := 12) (k := 49) (i := 164) (JX.al (k := 0) rfl dX12_isHook_45) cl12 (by decide) rfl fk12_164 dX12_isHook_46) (JX.bp (n := 7) kb7 dX12_isHook_49) (JX.il (k := 1) rfl dX12_isHook_51) dX12_isHook_52) (JS.retI (pc1 := 58) (JX.call (pc1 := 55) decI_ok (JA.r (JX.al (k := 0) rfl dX12_isHook_53) (JA.i (JX.ic (n := 1) rfl dX12_isHook_54) JA.nil)) aX12_holds (RunK.V (i := 417) (c := 12) (n := 1) cl12 rfl (CN nX12_holds (by decide) (by decide)) gw1734 gw1736 gs88 dX12_isHook_55) (by decide)) dX12_isHook_58))))))
def mX12_isHook : MS := runM 3 (some (.boolean)) bX12_isHook
theorem aX12_isHook : MA yX12_isHook cX12_isHook 3 (some (.boolean)) 4 mX12_isHook := MA.of (plainFor_of_name (by decide)) jX12_isHook
theorem eX12_isHook (a0 : Nat) (a1 : Int32) (h : AH) : mX12_isHook [.ref a0, .int a1] h = (bX12_isHook [.val (.ref a0), .val (.int a1), .unset] h).bind (finM (some (.boolean))) := rfl
/-! PieceStoreModel.hookLike -/
theorem dX12_hookLike_0 : decode cX12_hookLike 0 = .ok (.iconst 0, 1) := by decide +kernel
theorem dX12_hookLike_1 : decode cX12_hookLike 1 = .ok (.istore_n 2, 1) := by decide +kernel
theorem dX12_hookLike_2 : decode cX12_hookLike 2 = .ok (.iload_n 2, 1) := by decide +kernel
theorem dX12_hookLike_3 : decode cX12_hookLike 3 = .ok (.aload_n 0, 1) := by decide +kernel
theorem dX12_hookLike_4 : decode cX12_hookLike 4 = .ok (.getfield 117, 3) := by decide +kernel
theorem dX12_hookLike_7 : decode cX12_hookLike 7 = .ok (.iconst 4, 1) := by decide +kernel
theorem dX12_hookLike_8 : decode cX12_hookLike 8 = .ok (.iaload, 1) := by decide +kernel
theorem dX12_hookLike_9 : decode cX12_hookLike 9 = .ok (.if_icmp .ge 25, 3) := by decide +kernel
theorem dX12_hookLike_12 : decode cX12_hookLike 12 = .ok (.aload_n 0, 1) := by decide +kernel
theorem dX12_hookLike_13 : decode cX12_hookLike 13 = .ok (.aload_n 0, 1) := by decide +kernel
theorem dX12_hookLike_14 : decode cX12_hookLike 14 = .ok (.getfield 157, 3) := by decide +kernel
theorem dX12_hookLike_17 : decode cX12_hookLike 17 = .ok (.iload_n 2, 1) := by decide +kernel
theorem dX12_hookLike_18 : decode cX12_hookLike 18 = .ok (.iaload, 1) := by decide +kernel
theorem dX12_hookLike_19 : decode cX12_hookLike 19 = .ok (.iload_n 1, 1) := by decide +kernel
theorem dX12_hookLike_20 : decode cX12_hookLike 20 = .ok (.invokevirtual 459, 3) := by decide +kernel
theorem dX12_hookLike_23 : decode cX12_hookLike 23 = .ok (.ifCond .eq 5, 3) := by decide +kernel
theorem dX12_hookLike_26 : decode cX12_hookLike 26 = .ok (.iload_n 2, 1) := by decide +kernel
theorem dX12_hookLike_27 : decode cX12_hookLike 27 = .ok (.ireturn, 1) := by decide +kernel
theorem dX12_hookLike_28 : decode cX12_hookLike 28 = .ok (.iinc 2 1, 3) := by decide +kernel
theorem dX12_hookLike_31 : decode cX12_hookLike 31 = .ok (.goto (-29), 3) := by decide +kernel
theorem dX12_hookLike_34 : decode cX12_hookLike 34 = .ok (.iconst (-1), 1) := by decide +kernel
theorem dX12_hookLike_35 : decode cX12_hookLike 35 = .ok (.ireturn, 1) := by decide +kernel
abbrev MX12_hookLike : MI := (RX12, cX12_hookLike, 3, 3, false)
def lcX12_hookLike_1 : Ex Bool := (ltI (lvI 2) (aldI 2 (getR 12 34 (lvR 0)) (ciI (iI 4))))
def lbX12_hookLike_1 : St := (forB (ifS (ne0 (calX decI (ckV 12 2) mX12_isLike (agC va_rf (lvR 0) (agC Value.int (aldI 2 (getR 12 47 (lvR 0)) (lvI 2)) (agC Value.int (lvI 1) agN))))) (retI (lvI 2))) (incI 2 (iI 1)))
def bX12_hookLike : St := (seqS (scS 2 (seqS (lsI 2 (ciI (iI 0))) (whileS lcX12_hookLike_1 lbX12_hookLike_1))) (retI (ciI (iI (-1)))))
theorem jX12_hookLike : JS MX12_hookLike 0 0 0 36 [] bX12_hookLike :=
  (JS.seq (pc1 := 34) (JS.sc (JS.seq (pc1 := 2) (JS.is (pc1 := 1) (k := 2) (JX.ic (n := 0) rfl dX12_hookLike_0) rfl (show 2 < 3 by decide) dX12_hookLike_1) (JS.while (l := 34) (lb := 34) (pc1 := 12) (pc2 := 31) (pc3 := 34) (CJ.lt_f (tgt := 34) (pc1 := 3) (pc2 := 9) (JX.il (k := 2) rfl dX12_hookLike_2) (JX.iald (pc1 := 7) (pc2 := 8) (JX.getR (pc1 := 4) (c := 12) (k := 34) (i := 117) (JX.al (k := 0) rfl dX12_hookLike_3) cl12 (by decide) rfl fk12_117 dX12_hookLike_4) (JX.ic (n := 4) rfl dX12_hookLike_7) dX12_hookLike_8) dX12_hookLike_9 rfl) (JS.forb (pc1 := 28) (JS.iff (l := 28) (pc1 := 26) (CJ.ne0_f (tgt := 28) (pc1 := 23) (JX.call (pc1 := 20) decI_ok (JA.r (JX.al (k := 0) rfl dX12_hookLike_12) (JA.i (JX.iald (pc1 := 17) (pc2 := 18) (JX.getR (pc1 := 14) (c := 12) (k := 47) (i := 157) (JX.al (k := 0) rfl dX12_hookLike_13) cl12 (by decide) rfl fk12_157 dX12_hookLike_14) (JX.il (k := 2) rfl dX12_hookLike_17) dX12_hookLike_18) (JA.i (JX.il (k := 1) rfl dX12_hookLike_19) JA.nil))) aX12_isLike (RunK.V (i := 459) (c := 12) (n := 2) cl12 rfl (CN nX12_isLike (by decide) (by decide)) gw1792 gw1794 gs99 dX12_hookLike_20) (by decide)) dX12_hookLike_23 rfl) (JS.retI (pc1 := 27) (JX.il (k := 2) rfl dX12_hookLike_26) dX12_hookLike_27) (Or.inl rfl)) (JS.inc (n := 1) rfl (show 2 < 3 by decide) dX12_hookLike_28)) dX12_hookLike_31 rfl (Or.inl rfl) (Or.inl rfl)))) (JS.retI (pc1 := 35) (JX.ic (n := (-1)) rfl dX12_hookLike_34) dX12_hookLike_35))
def mX12_hookLike : MS := runM 3 (some (.int)) bX12_hookLike
theorem aX12_hookLike : MA yX12_hookLike cX12_hookLike 3 (some (.int)) 3 mX12_hookLike := MA.of (plainFor_of_name (by decide)) jX12_hookLike
theorem eX12_hookLike (a0 : Nat) (a1 : Int32) (h : AH) : mX12_hookLike [.ref a0, .int a1] h = (bX12_hookLike [.val (.ref a0), .val (.int a1), .unset] h).bind (finM (some (.int))) := rfl
/-! PieceStoreModel.hooksOf -/
theorem dX12_hooksOf_0 : decode cX12_hooksOf 0 = .ok (.iload_n 1, 1) := by decide +kernel
theorem dX12_hooksOf_1 : decode cX12_hooksOf 1 = .ok (.istore_n 3, 1) := by decide +kernel
theorem dX12_hooksOf_2 : decode cX12_hooksOf 2 = .ok (.iload_n 3, 1) := by decide +kernel
theorem dX12_hooksOf_3 : decode cX12_hooksOf 3 = .ok (.iload_n 2, 1) := by decide +kernel
theorem dX12_hooksOf_4 : decode cX12_hooksOf 4 = .ok (.if_icmp .ge 145, 3) := by decide +kernel
theorem dX12_hooksOf_7 : decode cX12_hooksOf 7 = .ok (.aload_n 0, 1) := by decide +kernel
theorem dX12_hooksOf_8 : decode cX12_hooksOf 8 = .ok (.getfield 182, 3) := by decide +kernel
theorem dX12_hooksOf_11 : decode cX12_hooksOf 11 = .ok (.iload_n 3, 1) := by decide +kernel
theorem dX12_hooksOf_12 : decode cX12_hooksOf 12 = .ok (.iload_n 1, 1) := by decide +kernel
theorem dX12_hooksOf_13 : decode cX12_hooksOf 13 = .ok (.isub, 1) := by decide +kernel
theorem dX12_hooksOf_14 : decode cX12_hooksOf 14 = .ok (.aload_n 0, 1) := by decide +kernel
theorem dX12_hooksOf_15 : decode cX12_hooksOf 15 = .ok (.iload_n 3, 1) := by decide +kernel
theorem dX12_hooksOf_16 : decode cX12_hooksOf 16 = .ok (.invokevirtual 463, 3) := by decide +kernel
theorem dX12_hooksOf_19 : decode cX12_hooksOf 19 = .ok (.ifCond .eq 7, 3) := by decide +kernel
theorem dX12_hooksOf_22 : decode cX12_hooksOf 22 = .ok (.iconst 1, 1) := by decide +kernel
theorem dX12_hooksOf_23 : decode cX12_hooksOf 23 = .ok (.goto 4, 3) := by decide +kernel
theorem dX12_hooksOf_26 : decode cX12_hooksOf 26 = .ok (.iconst 0, 1) := by decide +kernel
theorem dX12_hooksOf_27 : decode cX12_hooksOf 27 = .ok (.iastore, 1) := by decide +kernel
theorem dX12_hooksOf_28 : decode cX12_hooksOf 28 = .ok (.aload_n 0, 1) := by decide +kernel
theorem dX12_hooksOf_29 : decode cX12_hooksOf 29 = .ok (.getfield 185, 3) := by decide +kernel
theorem dX12_hooksOf_32 : decode cX12_hooksOf 32 = .ok (.iload_n 3, 1) := by decide +kernel
theorem dX12_hooksOf_33 : decode cX12_hooksOf 33 = .ok (.iload_n 1, 1) := by decide +kernel
theorem dX12_hooksOf_34 : decode cX12_hooksOf 34 = .ok (.isub, 1) := by decide +kernel
theorem dX12_hooksOf_35 : decode cX12_hooksOf 35 = .ok (.aload_n 0, 1) := by decide +kernel
theorem dX12_hooksOf_36 : decode cX12_hooksOf 36 = .ok (.getfield 182, 3) := by decide +kernel
theorem dX12_hooksOf_39 : decode cX12_hooksOf 39 = .ok (.iload_n 3, 1) := by decide +kernel
theorem dX12_hooksOf_40 : decode cX12_hooksOf 40 = .ok (.iload_n 1, 1) := by decide +kernel
theorem dX12_hooksOf_41 : decode cX12_hooksOf 41 = .ok (.isub, 1) := by decide +kernel
theorem dX12_hooksOf_42 : decode cX12_hooksOf 42 = .ok (.iaload, 1) := by decide +kernel
theorem dX12_hooksOf_43 : decode cX12_hooksOf 43 = .ok (.iastore, 1) := by decide +kernel
theorem dX12_hooksOf_44 : decode cX12_hooksOf 44 = .ok (.iload_n 1, 1) := by decide +kernel
theorem dX12_hooksOf_45 : decode cX12_hooksOf 45 = .ok (.istore 4, 2) := by decide +kernel
theorem dX12_hooksOf_47 : decode cX12_hooksOf 47 = .ok (.iload 4, 2) := by decide +kernel
theorem dX12_hooksOf_49 : decode cX12_hooksOf 49 = .ok (.iload_n 3, 1) := by decide +kernel
theorem dX12_hooksOf_50 : decode cX12_hooksOf 50 = .ok (.if_icmp .ge 41, 3) := by decide +kernel
theorem dX12_hooksOf_53 : decode cX12_hooksOf 53 = .ok (.aload_n 0, 1) := by decide +kernel
theorem dX12_hooksOf_54 : decode cX12_hooksOf 54 = .ok (.getfield 182, 3) := by decide +kernel
theorem dX12_hooksOf_57 : decode cX12_hooksOf 57 = .ok (.iload 4, 2) := by decide +kernel
theorem dX12_hooksOf_59 : decode cX12_hooksOf 59 = .ok (.iload_n 1, 1) := by decide +kernel
theorem dX12_hooksOf_60 : decode cX12_hooksOf 60 = .ok (.isub, 1) := by decide +kernel
theorem dX12_hooksOf_61 : decode cX12_hooksOf 61 = .ok (.iaload, 1) := by decide +kernel
theorem dX12_hooksOf_62 : decode cX12_hooksOf 62 = .ok (.iconst 1, 1) := by decide +kernel
theorem dX12_hooksOf_63 : decode cX12_hooksOf 63 = .ok (.if_icmp .ne 22, 3) := by decide +kernel
theorem dX12_hooksOf_66 : decode cX12_hooksOf 66 = .ok (.aload_n 0, 1) := by decide +kernel
theorem dX12_hooksOf_67 : decode cX12_hooksOf 67 = .ok (.iload 4, 2) := by decide +kernel
theorem dX12_hooksOf_69 : decode cX12_hooksOf 69 = .ok (.iload_n 3, 1) := by decide +kernel
theorem dX12_hooksOf_70 : decode cX12_hooksOf 70 = .ok (.invokevirtual 466, 3) := by decide +kernel
theorem dX12_hooksOf_73 : decode cX12_hooksOf 73 = .ok (.ifCond .eq 12, 3) := by decide +kernel
theorem dX12_hooksOf_76 : decode cX12_hooksOf 76 = .ok (.aload_n 0, 1) := by decide +kernel
theorem dX12_hooksOf_77 : decode cX12_hooksOf 77 = .ok (.getfield 185, 3) := by decide +kernel
theorem dX12_hooksOf_80 : decode cX12_hooksOf 80 = .ok (.iload_n 3, 1) := by decide +kernel
theorem dX12_hooksOf_81 : decode cX12_hooksOf 81 = .ok (.iload_n 1, 1) := by decide +kernel
theorem dX12_hooksOf_82 : decode cX12_hooksOf 82 = .ok (.isub, 1) := by decide +kernel
theorem dX12_hooksOf_83 : decode cX12_hooksOf 83 = .ok (.iconst 0, 1) := by decide +kernel
theorem dX12_hooksOf_84 : decode cX12_hooksOf 84 = .ok (.iastore, 1) := by decide +kernel
theorem dX12_hooksOf_85 : decode cX12_hooksOf 85 = .ok (.iinc 4 1, 3) := by decide +kernel
theorem dX12_hooksOf_88 : decode cX12_hooksOf 88 = .ok (.goto (-41), 3) := by decide +kernel
theorem dX12_hooksOf_91 : decode cX12_hooksOf 91 = .ok (.aload_n 0, 1) := by decide +kernel
theorem dX12_hooksOf_92 : decode cX12_hooksOf 92 = .ok (.getfield 185, 3) := by decide +kernel
theorem dX12_hooksOf_95 : decode cX12_hooksOf 95 = .ok (.iload_n 3, 1) := by decide +kernel
theorem dX12_hooksOf_96 : decode cX12_hooksOf 96 = .ok (.iload_n 1, 1) := by decide +kernel
theorem dX12_hooksOf_97 : decode cX12_hooksOf 97 = .ok (.isub, 1) := by decide +kernel
theorem dX12_hooksOf_98 : decode cX12_hooksOf 98 = .ok (.iaload, 1) := by decide +kernel
theorem dX12_hooksOf_99 : decode cX12_hooksOf 99 = .ok (.iconst 1, 1) := by decide +kernel
theorem dX12_hooksOf_100 : decode cX12_hooksOf 100 = .ok (.if_icmp .ne 11, 3) := by decide +kernel
theorem dX12_hooksOf_103 : decode cX12_hooksOf 103 = .ok (.aload_n 0, 1) := by decide +kernel
theorem dX12_hooksOf_104 : decode cX12_hooksOf 104 = .ok (.iload_n 3, 1) := by decide +kernel
theorem dX12_hooksOf_105 : decode cX12_hooksOf 105 = .ok (.invokevirtual 469, 3) := by decide +kernel
theorem dX12_hooksOf_108 : decode cX12_hooksOf 108 = .ok (.goto 4, 3) := by decide +kernel
theorem dX12_hooksOf_111 : decode cX12_hooksOf 111 = .ok (.iconst (-1), 1) := by decide +kernel
theorem dX12_hooksOf_112 : decode cX12_hooksOf 112 = .ok (.istore 4, 2) := by decide +kernel
theorem dX12_hooksOf_114 : decode cX12_hooksOf 114 = .ok (.aload_n 0, 1) := by decide +kernel
theorem dX12_hooksOf_115 : decode cX12_hooksOf 115 = .ok (.getfield 188, 3) := by decide +kernel
theorem dX12_hooksOf_118 : decode cX12_hooksOf 118 = .ok (.iload_n 3, 1) := by decide +kernel
theorem dX12_hooksOf_119 : decode cX12_hooksOf 119 = .ok (.iload_n 1, 1) := by decide +kernel
theorem dX12_hooksOf_120 : decode cX12_hooksOf 120 = .ok (.isub, 1) := by decide +kernel
theorem dX12_hooksOf_121 : decode cX12_hooksOf 121 = .ok (.iload 4, 2) := by decide +kernel
theorem dX12_hooksOf_123 : decode cX12_hooksOf 123 = .ok (.iconst (-1), 1) := by decide +kernel
theorem dX12_hooksOf_124 : decode cX12_hooksOf 124 = .ok (.if_icmp .ne 7, 3) := by decide +kernel
theorem dX12_hooksOf_127 : decode cX12_hooksOf 127 = .ok (.iconst (-1), 1) := by decide +kernel
theorem dX12_hooksOf_128 : decode cX12_hooksOf 128 = .ok (.goto 14, 3) := by decide +kernel
theorem dX12_hooksOf_131 : decode cX12_hooksOf 131 = .ok (.aload_n 0, 1) := by decide +kernel
theorem dX12_hooksOf_132 : decode cX12_hooksOf 132 = .ok (.getfield 117, 3) := by decide +kernel
theorem dX12_hooksOf_135 : decode cX12_hooksOf 135 = .ok (.sipush 31698, 3) := by decide +kernel
theorem dX12_hooksOf_138 : decode cX12_hooksOf 138 = .ok (.iload 4, 2) := by decide +kernel
theorem dX12_hooksOf_140 : decode cX12_hooksOf 140 = .ok (.iadd, 1) := by decide +kernel
theorem dX12_hooksOf_141 : decode cX12_hooksOf 141 = .ok (.iaload, 1) := by decide +kernel
theorem dX12_hooksOf_142 : decode cX12_hooksOf 142 = .ok (.iastore, 1) := by decide +kernel
theorem dX12_hooksOf_143 : decode cX12_hooksOf 143 = .ok (.iinc 3 1, 3) := by decide +kernel
theorem dX12_hooksOf_146 : decode cX12_hooksOf 146 = .ok (.goto (-144), 3) := by decide +kernel
theorem dX12_hooksOf_149 : decode cX12_hooksOf 149 = .ok (.return_, 1) := by decide +kernel
abbrev MX12_hooksOf : MI := (RX12, cX12_hooksOf, 5, 5, false)
def lcX12_hooksOf_1 : Ex Bool := (ltI (lvI 4) (lvI 3))
def lbX12_hooksOf_1 : St := (forB (ifS (andX (eqI (aldI 2 (getR 12 55 (lvR 0)) (subI (lvI 4) (lvI 1))) (ciI (iI 1))) (ne0 (calX decI (ckV 12 2) mX12_areLike (agC va_rf (lvR 0) (agC Value.int (lvI 4) (agC Value.int (lvI 3) agN)))))) (astI (getR 12 56 (lvR 0)) (subI (lvI 3) (lvI 1)) (ciI (iI 0)))) (incI 4 (iI 1)))
def lcX12_hooksOf_2 : Ex Bool := (ltI (lvI 3) (lvI 2))
def lbX12_hooksOf_2 : St := (forB (scS 4 (seqS (astI (getR 12 55 (lvR 0)) (subI (lvI 3) (lvI 1)) (iteX (ne0 (calX decI (ckV 12 1) mX12_isHook (agC va_rf (lvR 0) (agC Value.int (lvI 3) agN)))) (ciI (iI 1)) (ciI (iI 0)))) (seqS (astI (getR 12 56 (lvR 0)) (subI (lvI 3) (lvI 1)) (aldI 2 (getR 12 55 (lvR 0)) (subI (lvI 3) (lvI 1)))) (seqS (scS 4 (seqS (lsI 4 (lvI 1)) (whileS lcX12_hooksOf_1 lbX12_hooksOf_1))) (seqS (lsI 4 (iteX (eqI (aldI 2 (getR 12 56 (lvR 0)) (subI (lvI 3) (lvI 1))) (ciI (iI 1))) (calX decI (ckV 12 1) mX12_hookLike (agC va_rf (lvR 0) (agC Value.int (lvI 3) agN))) (ciI (iI (-1))))) (astI (getR 12 57 (lvR 0)) (subI (lvI 3) (lvI 1)) (iteX (eqI (lvI 4) (ciI (iI (-1)))) (ciI (iI (-1))) (aldI 2 (getR 12 34 (lvR 0)) (addI (ciI (iI 31698)) (lvI 4)))))))))) (incI 3 (iI 1)))
def bX12_hooksOf : St := (seqS (scS 3 (seqS (lsI 3 (lvI 1)) (whileS lcX12_hooksOf_2 lbX12_hooksOf_2))) retV)
theorem jX12_hooksOf : JS MX12_hooksOf 0 0 0 150 [] bX12_hooksOf :=
  (JS.seq (pc1 := 149) (JS.sc (JS.seq (pc1 := 2) (JS.is (pc1 := 1) (k := 3) (JX.il (k := 1) rfl dX12_hooksOf_0) rfl (show 3 < 5 by decide) dX12_hooksOf_1) (JS.while (l := 149) (lb := 149) (pc1 := 7) (pc2 := 146) (pc3 := 149) (CJ.lt_f (tgt := 149) (pc1 := 3) (pc2 := 4) (JX.il (k := 3) rfl dX12_hooksOf_2) (JX.il (k := 2) rfl dX12_hooksOf_3) dX12_hooksOf_4 rfl) (JS.forb (pc1 := 143) (JS.sc (JS.seq (pc1 := 28) (JS.ia (pc1 := 11) (pc2 := 14) (pc3 := 27) (JX.getR (pc1 := 8) (c := 12) (k := 55) (i := 182) (JX.al (k := 0) rfl dX12_hooksOf_7) cl12 (by decide) rfl fk12_182 dX12_hooksOf_8) (JX.isub (pc1 := 12) (pc2 := 13) (JX.il (k := 3) rfl dX12_hooksOf_11) (JX.il (k := 1) rfl dX12_hooksOf_12) dX12_hooksOf_13) (JX.ite (l := 26) (pc1 := 22) (pc2 := 23) (pc3 := 27) (lend := 27) (CJ.ne0_f (tgt := 26) (pc1 := 19) (JX.call (pc1 := 16) decI_ok (JA.r (JX.al (k := 0) rfl dX12_hooksOf_14) (JA.i (JX.il (k := 3) rfl dX12_hooksOf_15) JA.nil)) aX12_isHook (RunK.V (i := 463) (c := 12) (n := 1) cl12 rfl (CN nX12_isHook (by decide) (by decide)) gw1769 gw1771 gs94 dX12_hooksOf_16) (by decide)) dX12_hooksOf_19 rfl) (JX.ic (n := 1) rfl dX12_hooksOf_22) dX12_hooksOf_23 rfl (JX.ic (n := 0) rfl dX12_hooksOf_26) (Or.inl rfl)) dX12_hooksOf_27) (JS.seq (pc1 := 44) (JS.ia (pc1 := 32) (pc2 := 35) (pc3 := 43) (JX.getR (pc1 := 29) (c := 12) (k := 56) (i := 185) (JX.al (k := 0) rfl dX12_hooksOf_28) cl12 (by decide) rfl fk12_185 dX12_hooksOf_29) (JX.isub (pc1 := 33) (pc2 := 34) (JX.il (k := 3) rfl dX12_hooksOf_32) (JX.il (k := 1) rfl dX12_hooksOf_33) dX12_hooksOf_34) (JX.iald (pc1 := 39) (pc2 := 42) (JX.getR (pc1 := 36) (c := 12) (k := 55) (i := 182) (JX.al (k := 0) rfl dX12_hooksOf_35) cl12 (by decide) rfl fk12_182 dX12_hooksOf_36) (JX.isub (pc1 := 40) (pc2 := 41) (JX.il (k := 3) rfl dX12_hooksOf_39) (JX.il (k := 1) rfl dX12_hooksOf_40) dX12_hooksOf_41) dX12_hooksOf_42) dX12_hooksOf_43) (JS.seq (pc1 := 91) (JS.sc (JS.seq (pc1 := 47) (JS.is2 (pc1 := 45) (JX.il (k := 1) rfl dX12_hooksOf_44) (show 4 < 5 by decide) dX12_hooksOf_45) (JS.while (l := 91) (lb := 91) (pc1 := 53) (pc2 := 88) (pc3 := 91) (CJ.lt_f (tgt := 91) (pc1 := 49) (pc2 := 50) (JX.il2 dX12_hooksOf_47) (JX.il (k := 3) rfl dX12_hooksOf_49) dX12_hooksOf_50 rfl) (JS.forb (pc1 := 85) (JS.iff (l := 85) (pc1 := 76) (CJ.and_f (pc1 := 66) (CJ.eq_f (tgt := 85) (pc1 := 62) (pc2 := 63) (JX.iald (pc1 := 57) (pc2 := 61) (JX.getR (pc1 := 54) (c := 12) (k := 55) (i := 182) (JX.al (k := 0) rfl dX12_hooksOf_53) cl12 (by decide) rfl fk12_182 dX12_hooksOf_54) (JX.isub (pc1 := 59) (pc2 := 60) (JX.il2 dX12_hooksOf_57) (JX.il (k := 1) rfl dX12_hooksOf_59) dX12_hooksOf_60) dX12_hooksOf_61) (JX.ic (n := 1) rfl dX12_hooksOf_62) dX12_hooksOf_63 rfl) (CJ.ne0_f (tgt := 85) (pc1 := 73) (JX.call (pc1 := 70) decI_ok (JA.r (JX.al (k := 0) rfl dX12_hooksOf_66) (JA.i (JX.il2 dX12_hooksOf_67) (JA.i (JX.il (k := 3) rfl dX12_hooksOf_69) JA.nil))) aX12_areLike (RunK.V (i := 466) (c := 12) (n := 2) cl12 rfl (CN nX12_areLike (by decide) (by decide)) gw1784 gw1786 gs97 dX12_hooksOf_70) (by decide)) dX12_hooksOf_73 rfl)) (JS.ia (pc1 := 80) (pc2 := 83) (pc3 := 84) (JX.getR (pc1 := 77) (c := 12) (k := 56) (i := 185) (JX.al (k := 0) rfl dX12_hooksOf_76) cl12 (by decide) rfl fk12_185 dX12_hooksOf_77) (JX.isub (pc1 := 81) (pc2 := 82) (JX.il (k := 3) rfl dX12_hooksOf_80) (JX.il (k := 1) rfl dX12_hooksOf_81) dX12_hooksOf_82) (JX.ic (n := 0) rfl dX12_hooksOf_83) dX12_hooksOf_84) (Or.inl rfl)) (JS.inc (n := 1) rfl (show 4 < 5 by decide) dX12_hooksOf_85)) dX12_hooksOf_88 rfl (Or.inl rfl) (Or.inl rfl)))) (JS.seq (pc1 := 114) (JS.is2 (pc1 := 112) (JX.ite (l := 111) (pc1 := 103) (pc2 := 108) (pc3 := 112) (lend := 112) (CJ.eq_f (tgt := 111) (pc1 := 99) (pc2 := 100) (JX.iald (pc1 := 95) (pc2 := 98) (JX.getR (pc1 := 92) (c := 12) (k := 56) (i := 185) (JX.al (k := 0) rfl dX12_hooksOf_91) cl12 (by decide) rfl fk12_185 dX12_hooksOf_92) (JX.isub (pc1 := 96) (pc2 := 97) (JX.il (k := 3) rfl dX12_hooksOf_95) (JX.il (k := 1) rfl dX12_hooksOf_96) dX12_hooksOf_97) dX12_hooksOf_98) (JX.ic (n := 1) rfl dX12_hooksOf_99) dX12_hooksOf_100 rfl) (JX.call (pc1 := 105) decI_ok (JA.r (JX.al (k := 0) rfl dX12_hooksOf_103) (JA.i (JX.il (k := 3) rfl dX12_hooksOf_104) JA.nil)) aX12_hookLike (RunK.V (i := 469) (c := 12) (n := 1) cl12 rfl (CN nX12_hookLike (by decide) (by decide)) gw1788 gw1790 gs98 dX12_hooksOf_105) (by decide)) dX12_hooksOf_108 rfl (JX.ic (n := (-1)) rfl dX12_hooksOf_111) (Or.inl rfl)) (show 4 < 5 by decide) dX12_hooksOf_112) (JS.ia (pc1 := 118) (pc2 := 121) (pc3 := 142) (JX.getR (pc1 := 115) (c := 12) (k := 57) (i := 188) (JX.al (k := 0) rfl dX12_hooksOf_114) cl12 (by decide) rfl fk12_188 dX12_hooksOf_115) (JX.isub (pc1 := 119) (pc2 := 120) (JX.il (k := 3) rfl dX12_hooksOf_118) (JX.il (k := 1) rfl dX12_hooksOf_119) dX12_hooksOf_120) (JX.ite (l := 131) (pc1 := 127) (pc2 := 128) (pc3 := 142) (lend := 142) (CJ.eq_f (tgt := 131) (pc1 := 123) (pc2 := 124) (JX.il2 dX12_hooksOf_121) (JX.ic (n := (-1)) rfl dX12_hooksOf_123) dX12_hooksOf_124 rfl) (JX.ic (n := (-1)) rfl dX12_hooksOf_127) dX12_hooksOf_128 rfl (JX.iald (pc1 := 135) (pc2 := 141) (JX.getR (pc1 := 132) (c := 12) (k := 34) (i := 117) (JX.al (k := 0) rfl dX12_hooksOf_131) cl12 (by decide) rfl fk12_117 dX12_hooksOf_132) (JX.iadd (pc1 := 138) (pc2 := 140) (JX.sp (n := 31698) ks31698 dX12_hooksOf_135) (JX.il2 dX12_hooksOf_138) dX12_hooksOf_140) dX12_hooksOf_141) (Or.inl rfl)) dX12_hooksOf_142)))))) (JS.inc (n := 1) rfl (show 3 < 5 by decide) dX12_hooksOf_143)) dX12_hooksOf_146 rfl (Or.inl rfl) (Or.inl rfl)))) (JS.retV dX12_hooksOf_149))
def mX12_hooksOf : MS := runM 5 none bX12_hooksOf
theorem aX12_hooksOf : MA yX12_hooksOf cX12_hooksOf 5 none 5 mX12_hooksOf := MA.of (plainFor_of_name (by decide)) jX12_hooksOf
theorem eX12_hooksOf (a0 : Nat) (a1 : Int32) (a2 : Int32) (h : AH) : mX12_hooksOf [.ref a0, .int a1, .int a2] h = (bX12_hooksOf [.val (.ref a0), .val (.int a1), .val (.int a2), .unset, .unset] h).bind (finM none) := rfl
/-! PieceStoreModel.isChampion -/
theorem dX12_isChampion_0 : decode cX12_isChampion 0 = .ok (.iconst 0, 1) := by decide +kernel
theorem dX12_isChampion_1 : decode cX12_isChampion 1 = .ok (.istore_n 2, 1) := by decide +kernel
theorem dX12_isChampion_2 : decode cX12_isChampion 2 = .ok (.iload_n 2, 1) := by decide +kernel
theorem dX12_isChampion_3 : decode cX12_isChampion 3 = .ok (.aload_n 0, 1) := by decide +kernel
theorem dX12_isChampion_4 : decode cX12_isChampion 4 = .ok (.getfield 194, 3) := by decide +kernel
theorem dX12_isChampion_7 : decode cX12_isChampion 7 = .ok (.if_icmp .ge 21, 3) := by decide +kernel
theorem dX12_isChampion_10 : decode cX12_isChampion 10 = .ok (.aload_n 0, 1) := by decide +kernel
theorem dX12_isChampion_11 : decode cX12_isChampion 11 = .ok (.getfield 191, 3) := by decide +kernel
theorem dX12_isChampion_14 : decode cX12_isChampion 14 = .ok (.iload_n 2, 1) := by decide +kernel
theorem dX12_isChampion_15 : decode cX12_isChampion 15 = .ok (.iaload, 1) := by decide +kernel
theorem dX12_isChampion_16 : decode cX12_isChampion 16 = .ok (.iload_n 1, 1) := by decide +kernel
theorem dX12_isChampion_17 : decode cX12_isChampion 17 = .ok (.if_icmp .ne 5, 3) := by decide +kernel
theorem dX12_isChampion_20 : decode cX12_isChampion 20 = .ok (.iconst 1, 1) := by decide +kernel
theorem dX12_isChampion_21 : decode cX12_isChampion 21 = .ok (.ireturn, 1) := by decide +kernel
theorem dX12_isChampion_22 : decode cX12_isChampion 22 = .ok (.iinc 2 1, 3) := by decide +kernel
theorem dX12_isChampion_25 : decode cX12_isChampion 25 = .ok (.goto (-23), 3) := by decide +kernel
theorem dX12_isChampion_28 : decode cX12_isChampion 28 = .ok (.iconst 0, 1) := by decide +kernel
theorem dX12_isChampion_29 : decode cX12_isChampion 29 = .ok (.ireturn, 1) := by decide +kernel
abbrev MX12_isChampion : MI := (RX12, cX12_isChampion, 3, 1, false)
def lcX12_isChampion_1 : Ex Bool := (ltI (lvI 2) (getI 12 59 (lvR 0)))
def lbX12_isChampion_1 : St := (forB (ifS (eqI (aldI 2 (getR 12 58 (lvR 0)) (lvI 2)) (lvI 1)) (retI (ciI (iI 1)))) (incI 2 (iI 1)))
def bX12_isChampion : St := (seqS (scS 2 (seqS (lsI 2 (ciI (iI 0))) (whileS lcX12_isChampion_1 lbX12_isChampion_1))) (retI (ciI (iI 0))))
theorem jX12_isChampion : JS MX12_isChampion 0 0 0 30 [] bX12_isChampion :=
  (JS.seq (pc1 := 28) (JS.sc (JS.seq (pc1 := 2) (JS.is (pc1 := 1) (k := 2) (JX.ic (n := 0) rfl dX12_isChampion_0) rfl (show 2 < 3 by decide) dX12_isChampion_1) (JS.while (l := 28) (lb := 28) (pc1 := 10) (pc2 := 25) (pc3 := 28) (CJ.lt_f (tgt := 28) (pc1 := 3) (pc2 := 7) (JX.il (k := 2) rfl dX12_isChampion_2) (JX.getI (pc1 := 4) (c := 12) (k := 59) (i := 194) (JX.al (k := 0) rfl dX12_isChampion_3) cl12 (by decide) rfl fk12_194 dX12_isChampion_4) dX12_isChampion_7 rfl) (JS.forb (pc1 := 22) (JS.iff (l := 22) (pc1 := 20) (CJ.eq_f (tgt := 22) (pc1 := 16) (pc2 := 17) (JX.iald (pc1 := 14) (pc2 := 15) (JX.getR (pc1 := 11) (c := 12) (k := 58) (i := 191) (JX.al (k := 0) rfl dX12_isChampion_10) cl12 (by decide) rfl fk12_191 dX12_isChampion_11) (JX.il (k := 2) rfl dX12_isChampion_14) dX12_isChampion_15) (JX.il (k := 1) rfl dX12_isChampion_16) dX12_isChampion_17 rfl) (JS.retI (pc1 := 21) (JX.ic (n := 1) rfl dX12_isChampion_20) dX12_isChampion_21) (Or.inl rfl)) (JS.inc (n := 1) rfl (show 2 < 3 by decide) dX12_isChampion_22)) dX12_isChampion_25 rfl (Or.inl rfl) (Or.inl rfl)))) (JS.retI (pc1 := 29) (JX.ic (n := 0) rfl dX12_isChampion_28) dX12_isChampion_29))
def mX12_isChampion : MS := runM 3 (some (.boolean)) bX12_isChampion
theorem aX12_isChampion : MA yX12_isChampion cX12_isChampion 3 (some (.boolean)) 1 mX12_isChampion := MA.of (plainFor_of_name (by decide)) jX12_isChampion
theorem eX12_isChampion (a0 : Nat) (a1 : Int32) (h : AH) : mX12_isChampion [.ref a0, .int a1] h = (bX12_isChampion [.val (.ref a0), .val (.int a1), .unset] h).bind (finM (some (.boolean))) := rfl
/-! PieceStoreModel.hooksFor -/
theorem dX12_hooksFor_0 : decode cX12_hooksFor 0 = .ok (.iconst 0, 1) := by decide +kernel
theorem dX12_hooksFor_1 : decode cX12_hooksFor 1 = .ok (.istore_n 3, 1) := by decide +kernel
theorem dX12_hooksFor_2 : decode cX12_hooksFor 2 = .ok (.iconst 0, 1) := by decide +kernel
theorem dX12_hooksFor_3 : decode cX12_hooksFor 3 = .ok (.istore 4, 2) := by decide +kernel
theorem dX12_hooksFor_5 : decode cX12_hooksFor 5 = .ok (.iload 4, 2) := by decide +kernel
theorem dX12_hooksFor_7 : decode cX12_hooksFor 7 = .ok (.iload_n 2, 1) := by decide +kernel
theorem dX12_hooksFor_8 : decode cX12_hooksFor 8 = .ok (.if_icmp .ge 28, 3) := by decide +kernel
theorem dX12_hooksFor_11 : decode cX12_hooksFor 11 = .ok (.iload_n 3, 1) := by decide +kernel
theorem dX12_hooksFor_12 : decode cX12_hooksFor 12 = .ok (.aload_n 0, 1) := by decide +kernel
theorem dX12_hooksFor_13 : decode cX12_hooksFor 13 = .ok (.getfield 188, 3) := by decide +kernel
theorem dX12_hooksFor_16 : decode cX12_hooksFor 16 = .ok (.iload 4, 2) := by decide +kernel
theorem dX12_hooksFor_18 : decode cX12_hooksFor 18 = .ok (.iaload, 1) := by decide +kernel
theorem dX12_hooksFor_19 : decode cX12_hooksFor 19 = .ok (.iload_n 1, 1) := by decide +kernel
theorem dX12_hooksFor_20 : decode cX12_hooksFor 20 = .ok (.if_icmp .ne 7, 3) := by decide +kernel
theorem dX12_hooksFor_23 : decode cX12_hooksFor 23 = .ok (.iconst 1, 1) := by decide +kernel
theorem dX12_hooksFor_24 : decode cX12_hooksFor 24 = .ok (.goto 4, 3) := by decide +kernel
theorem dX12_hooksFor_27 : decode cX12_hooksFor 27 = .ok (.iconst 0, 1) := by decide +kernel
theorem dX12_hooksFor_28 : decode cX12_hooksFor 28 = .ok (.iadd, 1) := by decide +kernel
theorem dX12_hooksFor_29 : decode cX12_hooksFor 29 = .ok (.istore_n 3, 1) := by decide +kernel
theorem dX12_hooksFor_30 : decode cX12_hooksFor 30 = .ok (.iinc 4 1, 3) := by decide +kernel
theorem dX12_hooksFor_33 : decode cX12_hooksFor 33 = .ok (.goto (-28), 3) := by decide +kernel
theorem dX12_hooksFor_36 : decode cX12_hooksFor 36 = .ok (.iload_n 3, 1) := by decide +kernel
theorem dX12_hooksFor_37 : decode cX12_hooksFor 37 = .ok (.ireturn, 1) := by decide +kernel
abbrev MX12_hooksFor : MI := (RX12, cX12_hooksFor, 5, 1, false)
def lcX12_hooksFor_1 : Ex Bool := (ltI (lvI 4) (lvI 2))
def lbX12_hooksFor_1 : St := (forB (lsI 3 (addI (lvI 3) (iteX (eqI (aldI 2 (getR 12 57 (lvR 0)) (lvI 4)) (lvI 1)) (ciI (iI 1)) (ciI (iI 0))))) (incI 4 (iI 1)))
def bX12_hooksFor : St := (seqS (lsI 3 (ciI (iI 0))) (seqS (scS 4 (seqS (lsI 4 (ciI (iI 0))) (whileS lcX12_hooksFor_1 lbX12_hooksFor_1))) (retI (lvI 3))))
theorem jX12_hooksFor : JS MX12_hooksFor 0 0 0 38 [] bX12_hooksFor :=
  (JS.seq (pc1 := 2) (JS.is (pc1 := 1) (k := 3) (JX.ic (n := 0) rfl dX12_hooksFor_0) rfl (show 3 < 5 by decide) dX12_hooksFor_1) (JS.seq (pc1 := 36) (JS.sc (JS.seq (pc1 := 5) (JS.is2 (pc1 := 3) (JX.ic (n := 0) rfl dX12_hooksFor_2) (show 4 < 5 by decide) dX12_hooksFor_3) (JS.while (l := 36) (lb := 36) (pc1 := 11) (pc2 := 33) (pc3 := 36) (CJ.lt_f (tgt := 36) (pc1 := 7) (pc2 := 8) (JX.il2 dX12_hooksFor_5) (JX.il (k := 2) rfl dX12_hooksFor_7) dX12_hooksFor_8 rfl) (JS.forb (pc1 := 30) (JS.is (pc1 := 29) (k := 3) (JX.iadd (pc1 := 12) (pc2 := 28) (JX.il (k := 3) rfl dX12_hooksFor_11) (JX.ite (l := 27) (pc1 := 23) (pc2 := 24) (pc3 := 28) (lend := 28) (CJ.eq_f (tgt := 27) (pc1 := 19) (pc2 := 20) (JX.iald (pc1 := 16) (pc2 := 18) (JX.getR (pc1 := 13) (c := 12) (k := 57) (i := 188) (JX.al (k := 0) rfl dX12_hooksFor_12) cl12 (by decide) rfl fk12_188 dX12_hooksFor_13) (JX.il2 dX12_hooksFor_16) dX12_hooksFor_18) (JX.il (k := 1) rfl dX12_hooksFor_19) dX12_hooksFor_20 rfl) (JX.ic (n := 1) rfl dX12_hooksFor_23) dX12_hooksFor_24 rfl (JX.ic (n := 0) rfl dX12_hooksFor_27) (Or.inl rfl)) dX12_hooksFor_28) rfl (show 3 < 5 by decide) dX12_hooksFor_29) (JS.inc (n := 1) rfl (show 4 < 5 by decide) dX12_hooksFor_30)) dX12_hooksFor_33 rfl (Or.inl rfl) (Or.inl rfl)))) (JS.retI (pc1 := 37) (JX.il (k := 3) rfl dX12_hooksFor_36) dX12_hooksFor_37)))
def mX12_hooksFor : MS := runM 5 (some (.int)) bX12_hooksFor
theorem aX12_hooksFor : MA yX12_hooksFor cX12_hooksFor 5 (some (.int)) 1 mX12_hooksFor := MA.of (plainFor_of_name (by decide)) jX12_hooksFor
theorem eX12_hooksFor (a0 : Nat) (a1 : Int32) (a2 : Int32) (h : AH) : mX12_hooksFor [.ref a0, .int a1, .int a2] h = (bX12_hooksFor [.val (.ref a0), .val (.int a1), .val (.int a2), .unset, .unset] h).bind (finM (some (.int))) := rfl
/-! PieceStoreModel.findsChampions -/
theorem dX12_findsChampions_0 : decode cX12_findsChampions 0 = .ok (.aload_n 0, 1) := by decide +kernel
theorem dX12_findsChampions_1 : decode cX12_findsChampions 1 = .ok (.iconst 0, 1) := by decide +kernel
theorem dX12_findsChampions_2 : decode cX12_findsChampions 2 = .ok (.putfield 194, 3) := by decide +kernel
theorem dX12_findsChampions_5 : decode cX12_findsChampions 5 = .ok (.iconst 1, 1) := by decide +kernel
theorem dX12_findsChampions_6 : decode cX12_findsChampions 6 = .ok (.istore_n 2, 1) := by decide +kernel
theorem dX12_findsChampions_7 : decode cX12_findsChampions 7 = .ok (.aload_n 0, 1) := by decide +kernel
theorem dX12_findsChampions_8 : decode cX12_findsChampions 8 = .ok (.getfield 194, 3) := by decide +kernel
theorem dX12_findsChampions_11 : decode cX12_findsChampions 11 = .ok (.aload_n 0, 1) := by decide +kernel
theorem dX12_findsChampions_12 : decode cX12_findsChampions 12 = .ok (.bipush 6, 2) := by decide +kernel
theorem dX12_findsChampions_14 : decode cX12_findsChampions 14 = .ok (.invokevirtual 414, 3) := by decide +kernel
theorem dX12_findsChampions_17 : decode cX12_findsChampions 17 = .ok (.if_icmp .ge 138, 3) := by decide +kernel
theorem dX12_findsChampions_20 : decode cX12_findsChampions 20 = .ok (.iload_n 2, 1) := by decide +kernel
theorem dX12_findsChampions_21 : decode cX12_findsChampions 21 = .ok (.ifCond .eq 134, 3) := by decide +kernel
theorem dX12_findsChampions_24 : decode cX12_findsChampions 24 = .ok (.iconst (-1), 1) := by decide +kernel
theorem dX12_findsChampions_25 : decode cX12_findsChampions 25 = .ok (.istore_n 3, 1) := by decide +kernel
theorem dX12_findsChampions_26 : decode cX12_findsChampions 26 = .ok (.iconst 0, 1) := by decide +kernel
theorem dX12_findsChampions_27 : decode cX12_findsChampions 27 = .ok (.istore 4, 2) := by decide +kernel
theorem dX12_findsChampions_29 : decode cX12_findsChampions 29 = .ok (.iload 4, 2) := by decide +kernel
theorem dX12_findsChampions_31 : decode cX12_findsChampions 31 = .ok (.iload_n 1, 1) := by decide +kernel
theorem dX12_findsChampions_32 : decode cX12_findsChampions 32 = .ok (.if_icmp .ge 82, 3) := by decide +kernel
theorem dX12_findsChampions_35 : decode cX12_findsChampions 35 = .ok (.aload_n 0, 1) := by decide +kernel
theorem dX12_findsChampions_36 : decode cX12_findsChampions 36 = .ok (.getfield 188, 3) := by decide +kernel
theorem dX12_findsChampions_39 : decode cX12_findsChampions 39 = .ok (.iload 4, 2) := by decide +kernel
theorem dX12_findsChampions_41 : decode cX12_findsChampions 41 = .ok (.iaload, 1) := by decide +kernel
theorem dX12_findsChampions_42 : decode cX12_findsChampions 42 = .ok (.istore 5, 2) := by decide +kernel
theorem dX12_findsChampions_44 : decode cX12_findsChampions 44 = .ok (.iload 5, 2) := by decide +kernel
theorem dX12_findsChampions_46 : decode cX12_findsChampions 46 = .ok (.iconst (-1), 1) := by decide +kernel
theorem dX12_findsChampions_47 : decode cX12_findsChampions 47 = .ok (.if_icmp .eq 61, 3) := by decide +kernel
theorem dX12_findsChampions_50 : decode cX12_findsChampions 50 = .ok (.aload_n 0, 1) := by decide +kernel
theorem dX12_findsChampions_51 : decode cX12_findsChampions 51 = .ok (.iload 5, 2) := by decide +kernel
theorem dX12_findsChampions_53 : decode cX12_findsChampions 53 = .ok (.invokevirtual 472, 3) := by decide +kernel
theorem dX12_findsChampions_56 : decode cX12_findsChampions 56 = .ok (.ifCond .eq 6, 3) := by decide +kernel
theorem dX12_findsChampions_59 : decode cX12_findsChampions 59 = .ok (.goto 49, 3) := by decide +kernel
theorem dX12_findsChampions_62 : decode cX12_findsChampions 62 = .ok (.iload_n 3, 1) := by decide +kernel
theorem dX12_findsChampions_63 : decode cX12_findsChampions 63 = .ok (.iconst (-1), 1) := by decide +kernel
theorem dX12_findsChampions_64 : decode cX12_findsChampions 64 = .ok (.if_icmp .eq 41, 3) := by decide +kernel
theorem dX12_findsChampions_67 : decode cX12_findsChampions 67 = .ok (.aload_n 0, 1) := by decide +kernel
theorem dX12_findsChampions_68 : decode cX12_findsChampions 68 = .ok (.iload 5, 2) := by decide +kernel
theorem dX12_findsChampions_70 : decode cX12_findsChampions 70 = .ok (.iload_n 1, 1) := by decide +kernel
theorem dX12_findsChampions_71 : decode cX12_findsChampions 71 = .ok (.invokevirtual 475, 3) := by decide +kernel
theorem dX12_findsChampions_74 : decode cX12_findsChampions 74 = .ok (.aload_n 0, 1) := by decide +kernel
theorem dX12_findsChampions_75 : decode cX12_findsChampions 75 = .ok (.iload_n 3, 1) := by decide +kernel
theorem dX12_findsChampions_76 : decode cX12_findsChampions 76 = .ok (.iload_n 1, 1) := by decide +kernel
theorem dX12_findsChampions_77 : decode cX12_findsChampions 77 = .ok (.invokevirtual 475, 3) := by decide +kernel
theorem dX12_findsChampions_80 : decode cX12_findsChampions 80 = .ok (.if_icmp .gt 25, 3) := by decide +kernel
theorem dX12_findsChampions_83 : decode cX12_findsChampions 83 = .ok (.aload_n 0, 1) := by decide +kernel
theorem dX12_findsChampions_84 : decode cX12_findsChampions 84 = .ok (.iload 5, 2) := by decide +kernel
theorem dX12_findsChampions_86 : decode cX12_findsChampions 86 = .ok (.iload_n 1, 1) := by decide +kernel
theorem dX12_findsChampions_87 : decode cX12_findsChampions 87 = .ok (.invokevirtual 475, 3) := by decide +kernel
theorem dX12_findsChampions_90 : decode cX12_findsChampions 90 = .ok (.aload_n 0, 1) := by decide +kernel
theorem dX12_findsChampions_91 : decode cX12_findsChampions 91 = .ok (.iload_n 3, 1) := by decide +kernel
theorem dX12_findsChampions_92 : decode cX12_findsChampions 92 = .ok (.iload_n 1, 1) := by decide +kernel
theorem dX12_findsChampions_93 : decode cX12_findsChampions 93 = .ok (.invokevirtual 475, 3) := by decide +kernel
theorem dX12_findsChampions_96 : decode cX12_findsChampions 96 = .ok (.if_icmp .ne 12, 3) := by decide +kernel
theorem dX12_findsChampions_99 : decode cX12_findsChampions 99 = .ok (.iload 5, 2) := by decide +kernel
theorem dX12_findsChampions_101 : decode cX12_findsChampions 101 = .ok (.iload_n 3, 1) := by decide +kernel
theorem dX12_findsChampions_102 : decode cX12_findsChampions 102 = .ok (.if_icmp .le 6, 3) := by decide +kernel
theorem dX12_findsChampions_105 : decode cX12_findsChampions 105 = .ok (.iload 5, 2) := by decide +kernel
theorem dX12_findsChampions_107 : decode cX12_findsChampions 107 = .ok (.istore_n 3, 1) := by decide +kernel
theorem dX12_findsChampions_108 : decode cX12_findsChampions 108 = .ok (.iinc 4 1, 3) := by decide +kernel
theorem dX12_findsChampions_111 : decode cX12_findsChampions 111 = .ok (.goto (-82), 3) := by decide +kernel
theorem dX12_findsChampions_114 : decode cX12_findsChampions 114 = .ok (.iload_n 3, 1) := by decide +kernel
theorem dX12_findsChampions_115 : decode cX12_findsChampions 115 = .ok (.iconst (-1), 1) := by decide +kernel
theorem dX12_findsChampions_116 : decode cX12_findsChampions 116 = .ok (.if_icmp .eq 7, 3) := by decide +kernel
theorem dX12_findsChampions_119 : decode cX12_findsChampions 119 = .ok (.iconst 1, 1) := by decide +kernel
theorem dX12_findsChampions_120 : decode cX12_findsChampions 120 = .ok (.goto 4, 3) := by decide +kernel
theorem dX12_findsChampions_123 : decode cX12_findsChampions 123 = .ok (.iconst 0, 1) := by decide +kernel
theorem dX12_findsChampions_124 : decode cX12_findsChampions 124 = .ok (.istore_n 2, 1) := by decide +kernel
theorem dX12_findsChampions_125 : decode cX12_findsChampions 125 = .ok (.iload_n 2, 1) := by decide +kernel
theorem dX12_findsChampions_126 : decode cX12_findsChampions 126 = .ok (.ifCond .ne 6, 3) := by decide +kernel
theorem dX12_findsChampions_129 : decode cX12_findsChampions 129 = .ok (.goto (-122), 3) := by decide +kernel
theorem dX12_findsChampions_132 : decode cX12_findsChampions 132 = .ok (.aload_n 0, 1) := by decide +kernel
theorem dX12_findsChampions_133 : decode cX12_findsChampions 133 = .ok (.getfield 191, 3) := by decide +kernel
theorem dX12_findsChampions_136 : decode cX12_findsChampions 136 = .ok (.aload_n 0, 1) := by decide +kernel
theorem dX12_findsChampions_137 : decode cX12_findsChampions 137 = .ok (.getfield 194, 3) := by decide +kernel
theorem dX12_findsChampions_140 : decode cX12_findsChampions 140 = .ok (.iload_n 3, 1) := by decide +kernel
theorem dX12_findsChampions_141 : decode cX12_findsChampions 141 = .ok (.iastore, 1) := by decide +kernel
theorem dX12_findsChampions_142 : decode cX12_findsChampions 142 = .ok (.aload_n 0, 1) := by decide +kernel
theorem dX12_findsChampions_143 : decode cX12_findsChampions 143 = .ok (.dup, 1) := by decide +kernel
theorem dX12_findsChampions_144 : decode cX12_findsChampions 144 = .ok (.getfield 194, 3) := by decide +kernel
theorem dX12_findsChampions_147 : decode cX12_findsChampions 147 = .ok (.iconst 1, 1) := by decide +kernel
theorem dX12_findsChampions_148 : decode cX12_findsChampions 148 = .ok (.iadd, 1) := by decide +kernel
theorem dX12_findsChampions_149 : decode cX12_findsChampions 149 = .ok (.putfield 194, 3) := by decide +kernel
theorem dX12_findsChampions_152 : decode cX12_findsChampions 152 = .ok (.goto (-145), 3) := by decide +kernel
theorem dX12_findsChampions_155 : decode cX12_findsChampions 155 = .ok (.return_, 1) := by decide +kernel
abbrev MX12_findsChampions : MI := (RX12, cX12_findsChampions, 6, 2, false)
def lcX12_findsChampions_1 : Ex Bool := (ltI (lvI 4) (lvI 1))
def lbX12_findsChampions_1 : St := (forB (scS 5 (seqS (lsI 5 (aldI 2 (getR 12 57 (lvR 0)) (lvI 4))) (seqS (ifS (orX (eqI (lvI 5) (ciI (iI (-1)))) (ne0 (calX decI (ckV 12 1) mX12_isChampion (agC va_rf (lvR 0) (agC Value.int (lvI 5) agN))))) contS) (ifS (orX (orX (eqI (lvI 3) (ciI (iI (-1)))) (gtI (calX decI (ckV 12 2) mX12_hooksFor (agC va_rf (lvR 0) (agC Value.int (lvI 5) (agC Value.int (lvI 1) agN)))) (calX decI (ckV 12 2) mX12_hooksFor (agC va_rf (lvR 0) (agC Value.int (lvI 3) (agC Value.int (lvI 1) agN)))))) (andX (eqI (calX decI (ckV 12 2) mX12_hooksFor (agC va_rf (lvR 0) (agC Value.int (lvI 5) (agC Value.int (lvI 1) agN)))) (calX decI (ckV 12 2) mX12_hooksFor (agC va_rf (lvR 0) (agC Value.int (lvI 3) (agC Value.int (lvI 1) agN))))) (gtI (lvI 5) (lvI 3)))) (lsI 3 (lvI 5)))))) (incI 4 (iI 1)))
def lcX12_findsChampions_2 : Ex Bool := (andX (ltI (getI 12 59 (lvR 0)) (calX decI (ckV 12 1) mX12_by (agC va_rf (lvR 0) (agC Value.int (ciI (iI 6)) agN)))) (ne0 (lvI 2)))
def lbX12_findsChampions_2 : St := (scS 3 (seqS (lsI 3 (ciI (iI (-1)))) (seqS (scS 4 (seqS (lsI 4 (ciI (iI 0))) (whileS lcX12_findsChampions_1 lbX12_findsChampions_1))) (seqS (lsI 2 (iteX (neI (lvI 3) (ciI (iI (-1)))) (ciI (iI 1)) (ciI (iI 0)))) (seqS (ifS (notX (ne0 (lvI 2))) contS) (seqS (astI (getR 12 58 (lvR 0)) (getI 12 59 (lvR 0)) (lvI 3)) (updI 12 59 (fun x y => x + y) (lvR 0) (ciI (iI 1)))))))))
def bX12_findsChampions : St := (seqS (putI 12 59 (lvR 0) (ciI (iI 0))) (seqS (lsI 2 (ciI (iI 1))) (seqS (whileS lcX12_findsChampions_2 lbX12_findsChampions_2) retV)))
theorem jX12_findsChampions : JS MX12_findsChampions 0 0 0 156 [] bX12_findsChampions :=
  (JS.seq (pc1 := 5) (JS.pI (pc1 := 1) (pc2 := 2) (c := 12) (k := 59) (i := 194) (JX.al (k := 0) rfl dX12_findsChampions_0) (JX.ic (n := 0) rfl dX12_findsChampions_1) cl12 (by decide) rfl fk12_194 (Or.inl rfl) dX12_findsChampions_2) (JS.seq (pc1 := 7) (JS.is (pc1 := 6) (k := 2) (JX.ic (n := 1) rfl dX12_findsChampions_5) rfl (show 2 < 6 by decide) dX12_findsChampions_6) (JS.seq (pc1 := 155) (JS.while (l := 155) (lb := 155) (pc1 := 24) (pc2 := 152) (pc3 := 155) (CJ.and_f (pc1 := 20) (CJ.lt_f (tgt := 155) (pc1 := 11) (pc2 := 17) (JX.getI (pc1 := 8) (c := 12) (k := 59) (i := 194) (JX.al (k := 0) rfl dX12_findsChampions_7) cl12 (by decide) rfl fk12_194 dX12_findsChampions_8) (JX.call (pc1 := 14) decI_ok (JA.r (JX.al (k := 0) rfl dX12_findsChampions_11) (JA.i (JX.bp (n := 6) kb6 dX12_findsChampions_12) JA.nil)) aX12_by (RunK.V (i := 414) (c := 12) (n := 1) cl12 rfl (CN nX12_by (by decide) (by decide)) gw1714 gw1716 gs83 dX12_findsChampions_14) (by decide)) dX12_findsChampions_17 rfl) (CJ.ne0_f (tgt := 155) (pc1 := 21) (JX.il (k := 2) rfl dX12_findsChampions_20) dX12_findsChampions_21 rfl)) (JS.sc (JS.seq (pc1 := 26) (JS.is (pc1 := 25) (k := 3) (JX.ic (n := (-1)) rfl dX12_findsChampions_24) rfl (show 3 < 6 by decide) dX12_findsChampions_25) (JS.seq (pc1 := 114) (JS.sc (JS.seq (pc1 := 29) (JS.is2 (pc1 := 27) (JX.ic (n := 0) rfl dX12_findsChampions_26) (show 4 < 6 by decide) dX12_findsChampions_27) (JS.while (l := 114) (lb := 114) (pc1 := 35) (pc2 := 111) (pc3 := 114) (CJ.lt_f (tgt := 114) (pc1 := 31) (pc2 := 32) (JX.il2 dX12_findsChampions_29) (JX.il (k := 1) rfl dX12_findsChampions_31) dX12_findsChampions_32 rfl) (JS.forb (pc1 := 108) (JS.sc (JS.seq (pc1 := 44) (JS.is2 (pc1 := 42) (JX.iald (pc1 := 39) (pc2 := 41) (JX.getR (pc1 := 36) (c := 12) (k := 57) (i := 188) (JX.al (k := 0) rfl dX12_findsChampions_35) cl12 (by decide) rfl fk12_188 dX12_findsChampions_36) (JX.il2 dX12_findsChampions_39) dX12_findsChampions_41) (show 5 < 6 by decide) dX12_findsChampions_42) (JS.seq (pc1 := 62) (JS.ifc (l := 62) (pc1 := 59) (CJ.or_f (l := 108) (pc1 := 50) (CJ.eq_t (tgt := 108) (pc1 := 46) (pc2 := 47) (JX.il2 dX12_findsChampions_44) (JX.ic (n := (-1)) rfl dX12_findsChampions_46) dX12_findsChampions_47 rfl) (CJ.ne0_f (tgt := 62) (pc1 := 56) (JX.call (pc1 := 53) decI_ok (JA.r (JX.al (k := 0) rfl dX12_findsChampions_50) (JA.i (JX.il2 dX12_findsChampions_51) JA.nil)) aX12_isChampion (RunK.V (i := 472) (c := 12) (n := 1) cl12 rfl (CN nX12_isChampion (by decide) (by decide)) gw1800 gw1802 gs101 dX12_findsChampions_53) (by decide)) dX12_findsChampions_56 rfl) (Or.inr (List.mem_singleton.mpr rfl))) dX12_findsChampions_59 rfl (Or.inl rfl)) (JS.iff (l := 108) (pc1 := 105) (CJ.or_f (l := 105) (pc1 := 83) (CJ.or_t (pc1 := 67) (CJ.eq_t (tgt := 105) (pc1 := 63) (pc2 := 64) (JX.il (k := 3) rfl dX12_findsChampions_62) (JX.ic (n := (-1)) rfl dX12_findsChampions_63) dX12_findsChampions_64 rfl) (CJ.gt_t (tgt := 105) (pc1 := 74) (pc2 := 80) (JX.call (pc1 := 71) decI_ok (JA.r (JX.al (k := 0) rfl dX12_findsChampions_67) (JA.i (JX.il2 dX12_findsChampions_68) (JA.i (JX.il (k := 1) rfl dX12_findsChampions_70) JA.nil))) aX12_hooksFor (RunK.V (i := 475) (c := 12) (n := 2) cl12 rfl (CN nX12_hooksFor (by decide) (by decide)) gw1804 gw1806 gs102 dX12_findsChampions_71) (by decide)) (JX.call (pc1 := 77) decI_ok (JA.r (JX.al (k := 0) rfl dX12_findsChampions_74) (JA.i (JX.il (k := 3) rfl dX12_findsChampions_75) (JA.i (JX.il (k := 1) rfl dX12_findsChampions_76) JA.nil))) aX12_hooksFor (RunK.V (i := 475) (c := 12) (n := 2) cl12 rfl (CN nX12_hooksFor (by decide) (by decide)) gw1804 gw1806 gs102 dX12_findsChampions_77) (by decide)) dX12_findsChampions_80 rfl)) (CJ.and_f (pc1 := 99) (CJ.eq_f (tgt := 108) (pc1 := 90) (pc2 := 96) (JX.call (pc1 := 87) decI_ok (JA.r (JX.al (k := 0) rfl dX12_findsChampions_83) (JA.i (JX.il2 dX12_findsChampions_84) (JA.i (JX.il (k := 1) rfl dX12_findsChampions_86) JA.nil))) aX12_hooksFor (RunK.V (i := 475) (c := 12) (n := 2) cl12 rfl (CN nX12_hooksFor (by decide) (by decide)) gw1804 gw1806 gs102 dX12_findsChampions_87) (by decide)) (JX.call (pc1 := 93) decI_ok (JA.r (JX.al (k := 0) rfl dX12_findsChampions_90) (JA.i (JX.il (k := 3) rfl dX12_findsChampions_91) (JA.i (JX.il (k := 1) rfl dX12_findsChampions_92) JA.nil))) aX12_hooksFor (RunK.V (i := 475) (c := 12) (n := 2) cl12 rfl (CN nX12_hooksFor (by decide) (by decide)) gw1804 gw1806 gs102 dX12_findsChampions_93) (by decide)) dX12_findsChampions_96 rfl) (CJ.gt_f (tgt := 108) (pc1 := 101) (pc2 := 102) (JX.il2 dX12_findsChampions_99) (JX.il (k := 3) rfl dX12_findsChampions_101) dX12_findsChampions_102 rfl)) (Or.inl rfl)) (JS.is (pc1 := 107) (k := 3) (JX.il2 dX12_findsChampions_105) rfl (show 3 < 6 by decide) dX12_findsChampions_107) (Or.inl rfl))))) (JS.inc (n := 1) rfl (show 4 < 6 by decide) dX12_findsChampions_108)) dX12_findsChampions_111 rfl (Or.inl rfl) (Or.inl rfl)))) (JS.seq (pc1 := 125) (JS.is (pc1 := 124) (k := 2) (JX.ite (l := 123) (pc1 := 119) (pc2 := 120) (pc3 := 124) (lend := 124) (CJ.ne_f (tgt := 123) (pc1 := 115) (pc2 := 116) (JX.il (k := 3) rfl dX12_findsChampions_114) (JX.ic (n := (-1)) rfl dX12_findsChampions_115) dX12_findsChampions_116 rfl) (JX.ic (n := 1) rfl dX12_findsChampions_119) dX12_findsChampions_120 rfl (JX.ic (n := 0) rfl dX12_findsChampions_123) (Or.inl rfl)) rfl (show 2 < 6 by decide) dX12_findsChampions_124) (JS.seq (pc1 := 132) (JS.ifc (l := 132) (pc1 := 129) (CJ.not_f (CJ.ne0_t (tgt := 132) (pc1 := 126) (JX.il (k := 2) rfl dX12_findsChampions_125) dX12_findsChampions_126 rfl)) dX12_findsChampions_129 rfl (Or.inl rfl)) (JS.seq (pc1 := 142) (JS.ia (pc1 := 136) (pc2 := 140) (pc3 := 141) (JX.getR (pc1 := 133) (c := 12) (k := 58) (i := 191) (JX.al (k := 0) rfl dX12_findsChampions_132) cl12 (by decide) rfl fk12_191 dX12_findsChampions_133) (JX.getI (pc1 := 137) (c := 12) (k := 59) (i := 194) (JX.al (k := 0) rfl dX12_findsChampions_136) cl12 (by decide) rfl fk12_194 dX12_findsChampions_137) (JX.il (k := 3) rfl dX12_findsChampions_140) dX12_findsChampions_141) (JS.upA (pc1 := 143) (pc2 := 148) (c := 12) (k := 59) (i := 194) (JX.al (k := 0) rfl dX12_findsChampions_142) dX12_findsChampions_143 cl12 (by decide) rfl fk12_194 (Or.inl rfl) dX12_findsChampions_144 (JX.ic (n := 1) rfl dX12_findsChampions_147) dX12_findsChampions_148 dX12_findsChampions_149))))))) dX12_findsChampions_152 rfl (Or.inl rfl) (Or.inl rfl)) (JS.retV dX12_findsChampions_155))))
def mX12_findsChampions : MS := runM 6 none bX12_findsChampions
theorem aX12_findsChampions : MA yX12_findsChampions cX12_findsChampions 6 none 2 mX12_findsChampions := MA.of (plainFor_of_name (by decide)) jX12_findsChampions
theorem eX12_findsChampions (a0 : Nat) (a1 : Int32) (h : AH) : mX12_findsChampions [.ref a0, .int a1] h = (bX12_findsChampions [.val (.ref a0), .val (.int a1), .unset, .unset, .unset, .unset] h).bind (finM none) := rfl
/-! PieceStoreModel.had -/
theorem dX12_had_0 : decode cX12_had 0 = .ok (.iconst 0, 1) := by decide +kernel
theorem dX12_had_1 : decode cX12_had 1 = .ok (.istore_n 3, 1) := by decide +kernel
theorem dX12_had_2 : decode cX12_had 2 = .ok (.iload_n 3, 1) := by decide +kernel
theorem dX12_had_3 : decode cX12_had 3 = .ok (.aload_n 0, 1) := by decide +kernel
theorem dX12_had_4 : decode cX12_had 4 = .ok (.getfield 194, 3) := by decide +kernel
theorem dX12_had_7 : decode cX12_had 7 = .ok (.if_icmp .ge 89, 3) := by decide +kernel
theorem dX12_had_10 : decode cX12_had 10 = .ok (.aload_n 0, 1) := by decide +kernel
theorem dX12_had_11 : decode cX12_had 11 = .ok (.getfield 191, 3) := by decide +kernel
theorem dX12_had_14 : decode cX12_had 14 = .ok (.iload_n 3, 1) := by decide +kernel
theorem dX12_had_15 : decode cX12_had 15 = .ok (.iaload, 1) := by decide +kernel
theorem dX12_had_16 : decode cX12_had 16 = .ok (.istore 4, 2) := by decide +kernel
theorem dX12_had_18 : decode cX12_had 18 = .ok (.aload_n 0, 1) := by decide +kernel
theorem dX12_had_19 : decode cX12_had 19 = .ok (.getfield 151, 3) := by decide +kernel
theorem dX12_had_22 : decode cX12_had 22 = .ok (.iload 4, 2) := by decide +kernel
theorem dX12_had_24 : decode cX12_had 24 = .ok (.iaload, 1) := by decide +kernel
theorem dX12_had_25 : decode cX12_had 25 = .ok (.istore 5, 2) := by decide +kernel
theorem dX12_had_27 : decode cX12_had 27 = .ok (.iload 5, 2) := by decide +kernel
theorem dX12_had_29 : decode cX12_had 29 = .ok (.aload_n 0, 1) := by decide +kernel
theorem dX12_had_30 : decode cX12_had 30 = .ok (.getfield 151, 3) := by decide +kernel
theorem dX12_had_33 : decode cX12_had 33 = .ok (.iload 4, 2) := by decide +kernel
theorem dX12_had_35 : decode cX12_had 35 = .ok (.iaload, 1) := by decide +kernel
theorem dX12_had_36 : decode cX12_had 36 = .ok (.aload_n 0, 1) := by decide +kernel
theorem dX12_had_37 : decode cX12_had 37 = .ok (.getfield 154, 3) := by decide +kernel
theorem dX12_had_40 : decode cX12_had 40 = .ok (.iload 4, 2) := by decide +kernel
theorem dX12_had_42 : decode cX12_had 42 = .ok (.iaload, 1) := by decide +kernel
theorem dX12_had_43 : decode cX12_had 43 = .ok (.iadd, 1) := by decide +kernel
theorem dX12_had_44 : decode cX12_had 44 = .ok (.if_icmp .ge 46, 3) := by decide +kernel
theorem dX12_had_47 : decode cX12_had 47 = .ok (.aload_n 0, 1) := by decide +kernel
theorem dX12_had_48 : decode cX12_had 48 = .ok (.aload_n 0, 1) := by decide +kernel
theorem dX12_had_49 : decode cX12_had 49 = .ok (.getfield 139, 3) := by decide +kernel
theorem dX12_had_52 : decode cX12_had 52 = .ok (.iload 5, 2) := by decide +kernel
theorem dX12_had_54 : decode cX12_had 54 = .ok (.iaload, 1) := by decide +kernel
theorem dX12_had_55 : decode cX12_had 55 = .ok (.invokevirtual 441, 3) := by decide +kernel
theorem dX12_had_58 : decode cX12_had 58 = .ok (.ifCond .eq 26, 3) := by decide +kernel
theorem dX12_had_61 : decode cX12_had 61 = .ok (.aload_n 0, 1) := by decide +kernel
theorem dX12_had_62 : decode cX12_had 62 = .ok (.aload_n 0, 1) := by decide +kernel
theorem dX12_had_63 : decode cX12_had 63 = .ok (.getfield 139, 3) := by decide +kernel
theorem dX12_had_66 : decode cX12_had 66 = .ok (.iload 5, 2) := by decide +kernel
theorem dX12_had_68 : decode cX12_had 68 = .ok (.iaload, 1) := by decide +kernel
theorem dX12_had_69 : decode cX12_had 69 = .ok (.iload_n 1, 1) := by decide +kernel
theorem dX12_had_70 : decode cX12_had 70 = .ok (.invokevirtual 459, 3) := by decide +kernel
theorem dX12_had_73 : decode cX12_had 73 = .ok (.ifCond .eq 11, 3) := by decide +kernel
theorem dX12_had_76 : decode cX12_had 76 = .ok (.aload_n 0, 1) := by decide +kernel
theorem dX12_had_77 : decode cX12_had 77 = .ok (.getfield 139, 3) := by decide +kernel
theorem dX12_had_80 : decode cX12_had 80 = .ok (.iload 5, 2) := by decide +kernel
theorem dX12_had_82 : decode cX12_had 82 = .ok (.iaload, 1) := by decide +kernel
theorem dX12_had_83 : decode cX12_had 83 = .ok (.ireturn, 1) := by decide +kernel
theorem dX12_had_84 : decode cX12_had 84 = .ok (.iinc 5 1, 3) := by decide +kernel
theorem dX12_had_87 : decode cX12_had 87 = .ok (.goto (-60), 3) := by decide +kernel
theorem dX12_had_90 : decode cX12_had 90 = .ok (.iinc 3 1, 3) := by decide +kernel
theorem dX12_had_93 : decode cX12_had 93 = .ok (.goto (-91), 3) := by decide +kernel
theorem dX12_had_96 : decode cX12_had 96 = .ok (.iload_n 2, 1) := by decide +kernel
theorem dX12_had_97 : decode cX12_had 97 = .ok (.istore_n 3, 1) := by decide +kernel
theorem dX12_had_98 : decode cX12_had 98 = .ok (.iload_n 3, 1) := by decide +kernel
theorem dX12_had_99 : decode cX12_had 99 = .ok (.aload_n 0, 1) := by decide +kernel
theorem dX12_had_100 : decode cX12_had 100 = .ok (.getfield 117, 3) := by decide +kernel
theorem dX12_had_103 : decode cX12_had 103 = .ok (.iconst 0, 1) := by decide +kernel
theorem dX12_had_104 : decode cX12_had 104 = .ok (.iaload, 1) := by decide +kernel
theorem dX12_had_105 : decode cX12_had 105 = .ok (.if_icmp .ge 30, 3) := by decide +kernel
theorem dX12_had_108 : decode cX12_had 108 = .ok (.aload_n 0, 1) := by decide +kernel
theorem dX12_had_109 : decode cX12_had 109 = .ok (.aload_n 0, 1) := by decide +kernel
theorem dX12_had_110 : decode cX12_had 110 = .ok (.getfield 139, 3) := by decide +kernel
theorem dX12_had_113 : decode cX12_had 113 = .ok (.iload_n 3, 1) := by decide +kernel
theorem dX12_had_114 : decode cX12_had 114 = .ok (.iaload, 1) := by decide +kernel
theorem dX12_had_115 : decode cX12_had 115 = .ok (.iload_n 1, 1) := by decide +kernel
theorem dX12_had_116 : decode cX12_had 116 = .ok (.invokevirtual 459, 3) := by decide +kernel
theorem dX12_had_119 : decode cX12_had 119 = .ok (.ifCond .eq 10, 3) := by decide +kernel
theorem dX12_had_122 : decode cX12_had 122 = .ok (.aload_n 0, 1) := by decide +kernel
theorem dX12_had_123 : decode cX12_had 123 = .ok (.getfield 139, 3) := by decide +kernel
theorem dX12_had_126 : decode cX12_had 126 = .ok (.iload_n 3, 1) := by decide +kernel
theorem dX12_had_127 : decode cX12_had 127 = .ok (.iaload, 1) := by decide +kernel
theorem dX12_had_128 : decode cX12_had 128 = .ok (.ireturn, 1) := by decide +kernel
theorem dX12_had_129 : decode cX12_had 129 = .ok (.iinc 3 1, 3) := by decide +kernel
theorem dX12_had_132 : decode cX12_had 132 = .ok (.goto (-34), 3) := by decide +kernel
theorem dX12_had_135 : decode cX12_had 135 = .ok (.iconst (-1), 1) := by decide +kernel
theorem dX12_had_136 : decode cX12_had 136 = .ok (.ireturn, 1) := by decide +kernel
abbrev MX12_had : MI := (RX12, cX12_had, 6, 3, false)
def lcX12_had_1 : Ex Bool := (ltI (lvI 5) (addI (aldI 2 (getR 12 45 (lvR 0)) (lvI 4)) (aldI 2 (getR 12 46 (lvR 0)) (lvI 4))))
def lbX12_had_1 : St := (forB (ifS (andX (ne0 (calX decI (ckV 12 1) mX12_isThere (agC va_rf (lvR 0) (agC Value.int (aldI 2 (getR 12 41 (lvR 0)) (lvI 5)) agN)))) (ne0 (calX decI (ckV 12 2) mX12_isLike (agC va_rf (lvR 0) (agC Value.int (aldI 2 (getR 12 41 (lvR 0)) (lvI 5)) (agC Value.int (lvI 1) agN)))))) (retI (aldI 2 (getR 12 41 (lvR 0)) (lvI 5)))) (incI 5 (iI 1)))
def lcX12_had_2 : Ex Bool := (ltI (lvI 3) (getI 12 59 (lvR 0)))
def lbX12_had_2 : St := (forB (scS 4 (seqS (lsI 4 (aldI 2 (getR 12 58 (lvR 0)) (lvI 3))) (scS 5 (seqS (lsI 5 (aldI 2 (getR 12 45 (lvR 0)) (lvI 4))) (whileS lcX12_had_1 lbX12_had_1))))) (incI 3 (iI 1)))
def lcX12_had_3 : Ex Bool := (ltI (lvI 3) (aldI 2 (getR 12 34 (lvR 0)) (ciI (iI 0))))
def lbX12_had_3 : St := (forB (ifS (ne0 (calX decI (ckV 12 2) mX12_isLike (agC va_rf (lvR 0) (agC Value.int (aldI 2 (getR 12 41 (lvR 0)) (lvI 3)) (agC Value.int (lvI 1) agN))))) (retI (aldI 2 (getR 12 41 (lvR 0)) (lvI 3)))) (incI 3 (iI 1)))
def bX12_had : St := (seqS (scS 3 (seqS (lsI 3 (ciI (iI 0))) (whileS lcX12_had_2 lbX12_had_2))) (seqS (scS 3 (seqS (lsI 3 (lvI 2)) (whileS lcX12_had_3 lbX12_had_3))) (retI (ciI (iI (-1))))))
theorem jX12_had : JS MX12_had 0 0 0 137 [] bX12_had :=
  (JS.seq (pc1 := 96) (JS.sc (JS.seq (pc1 := 2) (JS.is (pc1 := 1) (k := 3) (JX.ic (n := 0) rfl dX12_had_0) rfl (show 3 < 6 by decide) dX12_had_1) (JS.while (l := 96) (lb := 96) (pc1 := 10) (pc2 := 93) (pc3 := 96) (CJ.lt_f (tgt := 96) (pc1 := 3) (pc2 := 7) (JX.il (k := 3) rfl dX12_had_2) (JX.getI (pc1 := 4) (c := 12) (k := 59) (i := 194) (JX.al (k := 0) rfl dX12_had_3) cl12 (by decide) rfl fk12_194 dX12_had_4) dX12_had_7 rfl) (JS.forb (pc1 := 90) (JS.sc (JS.seq (pc1 := 18) (JS.is2 (pc1 := 16) (JX.iald (pc1 := 14) (pc2 := 15) (JX.getR (pc1 := 11) (c := 12) (k := 58) (i := 191) (JX.al (k := 0) rfl dX12_had_10) cl12 (by decide) rfl fk12_191 dX12_had_11) (JX.il (k := 3) rfl dX12_had_14) dX12_had_15) (show 4 < 6 by decide) dX12_had_16) (JS.sc (JS.seq (pc1 := 27) (JS.is2 (pc1 := 25) (JX.iald (pc1 := 22) (pc2 := 24) (JX.getR (pc1 := 19) (c := 12) (k := 45) (i := 151) (JX.al (k := 0) rfl dX12_had_18) cl12 (by decide) rfl fk12_151 dX12_had_19) (JX.il2 dX12_had_22) dX12_had_24) (show 5 < 6 by decide) dX12_had_25) (JS.while (l := 90) (lb := 90) (pc1 := 47) (pc2 := 87) (pc3 := 90) (CJ.lt_f (tgt := 90) (pc1 := 29) (pc2 := 44) (JX.il2 dX12_had_27) (JX.iadd (pc1 := 36) (pc2 := 43) (JX.iald (pc1 := 33) (pc2 := 35) (JX.getR (pc1 := 30) (c := 12) (k := 45) (i := 151) (JX.al (k := 0) rfl dX12_had_29) cl12 (by decide) rfl fk12_151 dX12_had_30) (JX.il2 dX12_had_33) dX12_had_35) (JX.iald (pc1 := 40) (pc2 := 42) (JX.getR (pc1 := 37) (c := 12) (k := 46) (i := 154) (JX.al (k := 0) rfl dX12_had_36) cl12 (by decide) rfl fk12_154 dX12_had_37) (JX.il2 dX12_had_40) dX12_had_42) dX12_had_43) dX12_had_44 rfl) (JS.forb (pc1 := 84) (JS.iff (l := 84) (pc1 := 76) (CJ.and_f (pc1 := 61) (CJ.ne0_f (tgt := 84) (pc1 := 58) (JX.call (pc1 := 55) decI_ok (JA.r (JX.al (k := 0) rfl dX12_had_47) (JA.i (JX.iald (pc1 := 52) (pc2 := 54) (JX.getR (pc1 := 49) (c := 12) (k := 41) (i := 139) (JX.al (k := 0) rfl dX12_had_48) cl12 (by decide) rfl fk12_139 dX12_had_49) (JX.il2 dX12_had_52) dX12_had_54) JA.nil)) aX12_isThere (RunK.V (i := 441) (c := 12) (n := 1) cl12 rfl (CN nX12_isThere (by decide) (by decide)) gw1753 gw1755 gs90 dX12_had_55) (by decide)) dX12_had_58 rfl) (CJ.ne0_f (tgt := 84) (pc1 := 73) (JX.call (pc1 := 70) decI_ok (JA.r (JX.al (k := 0) rfl dX12_had_61) (JA.i (JX.iald (pc1 := 66) (pc2 := 68) (JX.getR (pc1 := 63) (c := 12) (k := 41) (i := 139) (JX.al (k := 0) rfl dX12_had_62) cl12 (by decide) rfl fk12_139 dX12_had_63) (JX.il2 dX12_had_66) dX12_had_68) (JA.i (JX.il (k := 1) rfl dX12_had_69) JA.nil))) aX12_isLike (RunK.V (i := 459) (c := 12) (n := 2) cl12 rfl (CN nX12_isLike (by decide) (by decide)) gw1792 gw1794 gs99 dX12_had_70) (by decide)) dX12_had_73 rfl)) (JS.retI (pc1 := 83) (JX.iald (pc1 := 80) (pc2 := 82) (JX.getR (pc1 := 77) (c := 12) (k := 41) (i := 139) (JX.al (k := 0) rfl dX12_had_76) cl12 (by decide) rfl fk12_139 dX12_had_77) (JX.il2 dX12_had_80) dX12_had_82) dX12_had_83) (Or.inl rfl)) (JS.inc (n := 1) rfl (show 5 < 6 by decide) dX12_had_84)) dX12_had_87 rfl (Or.inl rfl) (Or.inl rfl)))))) (JS.inc (n := 1) rfl (show 3 < 6 by decide) dX12_had_90)) dX12_had_93 rfl (Or.inl rfl) (Or.inl rfl)))) (JS.seq (pc1 := 135) (JS.sc (JS.seq (pc1 := 98) (JS.is (pc1 := 97) (k := 3) (JX.il (k := 2) rfl dX12_had_96) rfl (show 3 < 6 by decide) dX12_had_97) (JS.while (l := 135) (lb := 135) (pc1 := 108) (pc2 := 132) (pc3 := 135) (CJ.lt_f (tgt := 135) (pc1 := 99) (pc2 := 105) (JX.il (k := 3) rfl dX12_had_98) (JX.iald (pc1 := 103) (pc2 := 104) (JX.getR (pc1 := 100) (c := 12) (k := 34) (i := 117) (JX.al (k := 0) rfl dX12_had_99) cl12 (by decide) rfl fk12_117 dX12_had_100) (JX.ic (n := 0) rfl dX12_had_103) dX12_had_104) dX12_had_105 rfl) (JS.forb (pc1 := 129) (JS.iff (l := 129) (pc1 := 122) (CJ.ne0_f (tgt := 129) (pc1 := 119) (JX.call (pc1 := 116) decI_ok (JA.r (JX.al (k := 0) rfl dX12_had_108) (JA.i (JX.iald (pc1 := 113) (pc2 := 114) (JX.getR (pc1 := 110) (c := 12) (k := 41) (i := 139) (JX.al (k := 0) rfl dX12_had_109) cl12 (by decide) rfl fk12_139 dX12_had_110) (JX.il (k := 3) rfl dX12_had_113) dX12_had_114) (JA.i (JX.il (k := 1) rfl dX12_had_115) JA.nil))) aX12_isLike (RunK.V (i := 459) (c := 12) (n := 2) cl12 rfl (CN nX12_isLike (by decide) (by decide)) gw1792 gw1794 gs99 dX12_had_116) (by decide)) dX12_had_119 rfl) (JS.retI (pc1 := 128) (JX.iald (pc1 := 126) (pc2 := 127) (JX.getR (pc1 := 123) (c := 12) (k := 41) (i := 139) (JX.al (k := 0) rfl dX12_had_122) cl12 (by decide) rfl fk12_139 dX12_had_123) (JX.il (k := 3) rfl dX12_had_126) dX12_had_127) dX12_had_128) (Or.inl rfl)) (JS.inc (n := 1) rfl (show 3 < 6 by decide) dX12_had_129)) dX12_had_132 rfl (Or.inl rfl) (Or.inl rfl)))) (JS.retI (pc1 := 136) (JX.ic (n := (-1)) rfl dX12_had_135) dX12_had_136)))
def mX12_had : MS := runM 6 (some (.int)) bX12_had
theorem aX12_had : MA yX12_had cX12_had 6 (some (.int)) 3 mX12_had := MA.of (plainFor_of_name (by decide)) jX12_had
theorem eX12_had (a0 : Nat) (a1 : Int32) (a2 : Int32) (h : AH) : mX12_had [.ref a0, .int a1, .int a2] h = (bX12_had [.val (.ref a0), .val (.int a1), .val (.int a2), .unset, .unset, .unset] h).bind (finM (some (.int))) := rfl
/-! PieceStoreModel.writes -/
theorem dX12_writes_0 : decode cX12_writes 0 = .ok (.aload_n 0, 1) := by decide +kernel
theorem dX12_writes_1 : decode cX12_writes 1 = .ok (.getfield 117, 3) := by decide +kernel
theorem dX12_writes_4 : decode cX12_writes 4 = .ok (.iconst 1, 1) := by decide +kernel
theorem dX12_writes_5 : decode cX12_writes 5 = .ok (.iaload, 1) := by decide +kernel
theorem dX12_writes_6 : decode cX12_writes 6 = .ok (.istore_n 2, 1) := by decide +kernel
theorem dX12_writes_7 : decode cX12_writes 7 = .ok (.aload_n 0, 1) := by decide +kernel
theorem dX12_writes_8 : decode cX12_writes 8 = .ok (.getfield 142, 3) := by decide +kernel
theorem dX12_writes_11 : decode cX12_writes 11 = .ok (.iload_n 2, 1) := by decide +kernel
theorem dX12_writes_12 : decode cX12_writes 12 = .ok (.aload_n 0, 1) := by decide +kernel
theorem dX12_writes_13 : decode cX12_writes 13 = .ok (.getfield 117, 3) := by decide +kernel
theorem dX12_writes_16 : decode cX12_writes 16 = .ok (.iconst 2, 1) := by decide +kernel
theorem dX12_writes_17 : decode cX12_writes 17 = .ok (.iaload, 1) := by decide +kernel
theorem dX12_writes_18 : decode cX12_writes 18 = .ok (.iastore, 1) := by decide +kernel
theorem dX12_writes_19 : decode cX12_writes 19 = .ok (.aload_n 0, 1) := by decide +kernel
theorem dX12_writes_20 : decode cX12_writes 20 = .ok (.getfield 145, 3) := by decide +kernel
theorem dX12_writes_23 : decode cX12_writes 23 = .ok (.iload_n 2, 1) := by decide +kernel
theorem dX12_writes_24 : decode cX12_writes 24 = .ok (.aload_n 0, 1) := by decide +kernel
theorem dX12_writes_25 : decode cX12_writes 25 = .ok (.iload_n 1, 1) := by decide +kernel
theorem dX12_writes_26 : decode cX12_writes 26 = .ok (.invokevirtual 429, 3) := by decide +kernel
theorem dX12_writes_29 : decode cX12_writes 29 = .ok (.iastore, 1) := by decide +kernel
theorem dX12_writes_30 : decode cX12_writes 30 = .ok (.iconst 0, 1) := by decide +kernel
theorem dX12_writes_31 : decode cX12_writes 31 = .ok (.istore_n 3, 1) := by decide +kernel
theorem dX12_writes_32 : decode cX12_writes 32 = .ok (.iload_n 3, 1) := by decide +kernel
theorem dX12_writes_33 : decode cX12_writes 33 = .ok (.aload_n 0, 1) := by decide +kernel
theorem dX12_writes_34 : decode cX12_writes 34 = .ok (.iload_n 1, 1) := by decide +kernel
theorem dX12_writes_35 : decode cX12_writes 35 = .ok (.invokevirtual 429, 3) := by decide +kernel
theorem dX12_writes_38 : decode cX12_writes 38 = .ok (.if_icmp .ge 35, 3) := by decide +kernel
theorem dX12_writes_41 : decode cX12_writes 41 = .ok (.aload_n 0, 1) := by decide +kernel
theorem dX12_writes_42 : decode cX12_writes 42 = .ok (.getfield 148, 3) := by decide +kernel
theorem dX12_writes_45 : decode cX12_writes 45 = .ok (.aload_n 0, 1) := by decide +kernel
theorem dX12_writes_46 : decode cX12_writes 46 = .ok (.getfield 117, 3) := by decide +kernel
theorem dX12_writes_49 : decode cX12_writes 49 = .ok (.iconst 2, 1) := by decide +kernel
theorem dX12_writes_50 : decode cX12_writes 50 = .ok (.iaload, 1) := by decide +kernel
theorem dX12_writes_51 : decode cX12_writes 51 = .ok (.iload_n 3, 1) := by decide +kernel
theorem dX12_writes_52 : decode cX12_writes 52 = .ok (.iadd, 1) := by decide +kernel
theorem dX12_writes_53 : decode cX12_writes 53 = .ok (.aload_n 0, 1) := by decide +kernel
theorem dX12_writes_54 : decode cX12_writes 54 = .ok (.getfield 167, 3) := by decide +kernel
theorem dX12_writes_57 : decode cX12_writes 57 = .ok (.aload_n 0, 1) := by decide +kernel
theorem dX12_writes_58 : decode cX12_writes 58 = .ok (.getfield 173, 3) := by decide +kernel
theorem dX12_writes_61 : decode cX12_writes 61 = .ok (.iload_n 1, 1) := by decide +kernel
theorem dX12_writes_62 : decode cX12_writes 62 = .ok (.iaload, 1) := by decide +kernel
theorem dX12_writes_63 : decode cX12_writes 63 = .ok (.iload_n 3, 1) := by decide +kernel
theorem dX12_writes_64 : decode cX12_writes 64 = .ok (.iadd, 1) := by decide +kernel
theorem dX12_writes_65 : decode cX12_writes 65 = .ok (.iaload, 1) := by decide +kernel
theorem dX12_writes_66 : decode cX12_writes 66 = .ok (.iastore, 1) := by decide +kernel
theorem dX12_writes_67 : decode cX12_writes 67 = .ok (.iinc 3 1, 3) := by decide +kernel
theorem dX12_writes_70 : decode cX12_writes 70 = .ok (.goto (-38), 3) := by decide +kernel
theorem dX12_writes_73 : decode cX12_writes 73 = .ok (.aload_n 0, 1) := by decide +kernel
theorem dX12_writes_74 : decode cX12_writes 74 = .ok (.iconst 1, 1) := by decide +kernel
theorem dX12_writes_75 : decode cX12_writes 75 = .ok (.iload_n 2, 1) := by decide +kernel
theorem dX12_writes_76 : decode cX12_writes 76 = .ok (.iconst 1, 1) := by decide +kernel
theorem dX12_writes_77 : decode cX12_writes 77 = .ok (.iadd, 1) := by decide +kernel
theorem dX12_writes_78 : decode cX12_writes 78 = .ok (.invokevirtual 450, 3) := by decide +kernel
theorem dX12_writes_81 : decode cX12_writes 81 = .ok (.aload_n 0, 1) := by decide +kernel
theorem dX12_writes_82 : decode cX12_writes 82 = .ok (.iconst 2, 1) := by decide +kernel
theorem dX12_writes_83 : decode cX12_writes 83 = .ok (.aload_n 0, 1) := by decide +kernel
theorem dX12_writes_84 : decode cX12_writes 84 = .ok (.getfield 117, 3) := by decide +kernel
theorem dX12_writes_87 : decode cX12_writes 87 = .ok (.iconst 2, 1) := by decide +kernel
theorem dX12_writes_88 : decode cX12_writes 88 = .ok (.iaload, 1) := by decide +kernel
theorem dX12_writes_89 : decode cX12_writes 89 = .ok (.aload_n 0, 1) := by decide +kernel
theorem dX12_writes_90 : decode cX12_writes 90 = .ok (.iload_n 1, 1) := by decide +kernel
theorem dX12_writes_91 : decode cX12_writes 91 = .ok (.invokevirtual 429, 3) := by decide +kernel
theorem dX12_writes_94 : decode cX12_writes 94 = .ok (.iadd, 1) := by decide +kernel
theorem dX12_writes_95 : decode cX12_writes 95 = .ok (.invokevirtual 450, 3) := by decide +kernel
theorem dX12_writes_98 : decode cX12_writes 98 = .ok (.aload_n 0, 1) := by decide +kernel
theorem dX12_writes_99 : decode cX12_writes 99 = .ok (.sipush 21398, 3) := by decide +kernel
theorem dX12_writes_102 : decode cX12_writes 102 = .ok (.iload_n 2, 1) := by decide +kernel
theorem dX12_writes_103 : decode cX12_writes 103 = .ok (.iadd, 1) := by decide +kernel
theorem dX12_writes_104 : decode cX12_writes 104 = .ok (.iconst 0, 1) := by decide +kernel
theorem dX12_writes_105 : decode cX12_writes 105 = .ok (.invokevirtual 450, 3) := by decide +kernel
theorem dX12_writes_108 : decode cX12_writes 108 = .ok (.aload_n 0, 1) := by decide +kernel
theorem dX12_writes_109 : decode cX12_writes 109 = .ok (.iload_n 2, 1) := by decide +kernel
theorem dX12_writes_110 : decode cX12_writes 110 = .ok (.invokevirtual 478, 3) := by decide +kernel
theorem dX12_writes_113 : decode cX12_writes 113 = .ok (.iload_n 2, 1) := by decide +kernel
theorem dX12_writes_114 : decode cX12_writes 114 = .ok (.ireturn, 1) := by decide +kernel
abbrev MX12_writes : MI := (RX12, cX12_writes, 4, 4, false)
def lcX12_writes_1 : Ex Bool := (ltI (lvI 3) (calX decI (ckV 12 1) mX12_lengthAt (agC va_rf (lvR 0) (agC Value.int (lvI 1) agN))))
def lbX12_writes_1 : St := (forB (astI (getR 12 44 (lvR 0)) (addI (aldI 2 (getR 12 34 (lvR 0)) (ciI (iI 2))) (lvI 3)) (aldI 2 (getR 12 50 (lvR 0)) (addI (aldI 2 (getR 12 52 (lvR 0)) (lvI 1)) (lvI 3)))) (incI 3 (iI 1)))
def bX12_writes : St := (seqS (lsI 2 (aldI 2 (getR 12 34 (lvR 0)) (ciI (iI 1)))) (seqS (astI (getR 12 42 (lvR 0)) (lvI 2) (aldI 2 (getR 12 34 (lvR 0)) (ciI (iI 2)))) (seqS (astI (getR 12 43 (lvR 0)) (lvI 2) (calX decI (ckV 12 1) mX12_lengthAt (agC va_rf (lvR 0) (agC Value.int (lvI 1) agN)))) (seqS (scS 3 (seqS (lsI 3 (ciI (iI 0))) (whileS lcX12_writes_1 lbX12_writes_1))) (seqS (calS (ckV 12 2) mX12_puts (agC va_rf (lvR 0) (agC Value.int (ciI (iI 1)) (agC Value.int (addI (lvI 2) (ciI (iI 1))) agN)))) (seqS (calS (ckV 12 2) mX12_puts (agC va_rf (lvR 0) (agC Value.int (ciI (iI 2)) (agC Value.int (addI (aldI 2 (getR 12 34 (lvR 0)) (ciI (iI 2))) (calX decI (ckV 12 1) mX12_lengthAt (agC va_rf (lvR 0) (agC Value.int (lvI 1) agN)))) agN)))) (seqS (calS (ckV 12 2) mX12_puts (agC va_rf (lvR 0) (agC Value.int (addI (ciI (iI 21398)) (lvI 2)) (agC Value.int (ciI (iI 0)) agN)))) (seqS (calS (ckV 12 1) mX12_lays (agC va_rf (lvR 0) (agC Value.int (lvI 2) agN))) (retI (lvI 2))))))))))
theorem jX12_writes : JS MX12_writes 0 0 0 115 [] bX12_writes :=
  (JS.seq (pc1 := 7) (JS.is (pc1 := 6) (k := 2) (JX.iald (pc1 := 4) (pc2 := 5) (JX.getR (pc1 := 1) (c := 12) (k := 34) (i := 117) (JX.al (k := 0) rfl dX12_writes_0) cl12 (by decide) rfl fk12_117 dX12_writes_1) (JX.ic (n := 1) rfl dX12_writes_4) dX12_writes_5) rfl (show 2 < 4 by decide) dX12_writes_6) (JS.seq (pc1 := 19) (JS.ia (pc1 := 11) (pc2 := 12) (pc3 := 18) (JX.getR (pc1 := 8) (c := 12) (k := 42) (i := 142) (JX.al (k := 0) rfl dX12_writes_7) cl12 (by decide) rfl fk12_142 dX12_writes_8) (JX.il (k := 2) rfl dX12_writes_11) (JX.iald (pc1 := 16) (pc2 := 17) (JX.getR (pc1 := 13) (c := 12) (k := 34) (i := 117) (JX.al (k := 0) rfl dX12_writes_12) cl12 (by decide) rfl fk12_117 dX12_writes_13) (JX.ic (n := 2) rfl dX12_writes_16) dX12_writes_17) dX12_writes_18) (JS.seq (pc1 := 30) (JS.ia (pc1 := 23) (pc2 := 24) (pc3 := 29) (JX.getR (pc1 := 20) (c := 12) (k := 43) (i := 145) (JX.al (k := 0) rfl dX12_writes_19) cl12 (by decide) rfl fk12_145 dX12_writes_20) (JX.il (k := 2) rfl dX12_writes_23) (JX.call (pc1 := 26) decI_ok (JA.r (JX.al (k := 0) rfl dX12_writes_24) (JA.i (JX.il (k := 1) rfl dX12_writes_25) JA.nil)) aX12_lengthAt (RunK.V (i := 429) (c := 12) (n := 1) cl12 rfl (CN nX12_lengthAt (by decide) (by decide)) gw1780 gw1782 gs96 dX12_writes_26) (by decide)) dX12_writes_29) (JS.seq (pc1 := 73) (JS.sc (JS.seq (pc1 := 32) (JS.is (pc1 := 31) (k := 3) (JX.ic (n := 0) rfl dX12_writes_30) rfl (show 3 < 4 by decide) dX12_writes_31) (JS.while (l := 73) (lb := 73) (pc1 := 41) (pc2 := 70) (pc3 := 73) (CJ.lt_f (tgt := 73) (pc1 := 33) (pc2 := 38) (JX.il (k := 3) rfl dX12_writes_32) (JX.call (pc1 := 35) decI_ok (JA.r (JX.al (k := 0) rfl dX12_writes_33) (JA.i (JX.il (k := 1) rfl dX12_writes_34) JA.nil)) aX12_lengthAt (RunK.V (i := 429) (c := 12) (n := 1) cl12 rfl (CN nX12_lengthAt (by decide) (by decide)) gw1780 gw1782 gs96 dX12_writes_35) (by decide)) dX12_writes_38 rfl) (JS.forb (pc1 := 67) (JS.ia (pc1 := 45) (pc2 := 53) (pc3 := 66) (JX.getR (pc1 := 42) (c := 12) (k := 44) (i := 148) (JX.al (k := 0) rfl dX12_writes_41) cl12 (by decide) rfl fk12_148 dX12_writes_42) (JX.iadd (pc1 := 51) (pc2 := 52) (JX.iald (pc1 := 49) (pc2 := 50) (JX.getR (pc1 := 46) (c := 12) (k := 34) (i := 117) (JX.al (k := 0) rfl dX12_writes_45) cl12 (by decide) rfl fk12_117 dX12_writes_46) (JX.ic (n := 2) rfl dX12_writes_49) dX12_writes_50) (JX.il (k := 3) rfl dX12_writes_51) dX12_writes_52) (JX.iald (pc1 := 57) (pc2 := 65) (JX.getR (pc1 := 54) (c := 12) (k := 50) (i := 167) (JX.al (k := 0) rfl dX12_writes_53) cl12 (by decide) rfl fk12_167 dX12_writes_54) (JX.iadd (pc1 := 63) (pc2 := 64) (JX.iald (pc1 := 61) (pc2 := 62) (JX.getR (pc1 := 58) (c := 12) (k := 52) (i := 173) (JX.al (k := 0) rfl dX12_writes_57) cl12 (by decide) rfl fk12_173 dX12_writes_58) (JX.il (k := 1) rfl dX12_writes_61) dX12_writes_62) (JX.il (k := 3) rfl dX12_writes_63) dX12_writes_64) dX12_writes_65) dX12_writes_66) (JS.inc (n := 1) rfl (show 3 < 4 by decide) dX12_writes_67)) dX12_writes_70 rfl (Or.inl rfl) (Or.inl rfl)))) (JS.seq (pc1 := 81) (JS.call (pc1 := 78) (JA.r (JX.al (k := 0) rfl dX12_writes_73) (JA.i (JX.ic (n := 1) rfl dX12_writes_74) (JA.i (JX.iadd (pc1 := 76) (pc2 := 77) (JX.il (k := 2) rfl dX12_writes_75) (JX.ic (n := 1) rfl dX12_writes_76) dX12_writes_77) JA.nil))) aX12_puts (RunK.V (i := 450) (c := 12) (n := 2) cl12 rfl (CN nX12_puts (by decide) (by decide)) gw1816 gw1818 gs105 dX12_writes_78)) (JS.seq (pc1 := 98) (JS.call (pc1 := 95) (JA.r (JX.al (k := 0) rfl dX12_writes_81) (JA.i (JX.ic (n := 2) rfl dX12_writes_82) (JA.i (JX.iadd (pc1 := 89) (pc2 := 94) (JX.iald (pc1 := 87) (pc2 := 88) (JX.getR (pc1 := 84) (c := 12) (k := 34) (i := 117) (JX.al (k := 0) rfl dX12_writes_83) cl12 (by decide) rfl fk12_117 dX12_writes_84) (JX.ic (n := 2) rfl dX12_writes_87) dX12_writes_88) (JX.call (pc1 := 91) decI_ok (JA.r (JX.al (k := 0) rfl dX12_writes_89) (JA.i (JX.il (k := 1) rfl dX12_writes_90) JA.nil)) aX12_lengthAt (RunK.V (i := 429) (c := 12) (n := 1) cl12 rfl (CN nX12_lengthAt (by decide) (by decide)) gw1780 gw1782 gs96 dX12_writes_91) (by decide)) dX12_writes_94) JA.nil))) aX12_puts (RunK.V (i := 450) (c := 12) (n := 2) cl12 rfl (CN nX12_puts (by decide) (by decide)) gw1816 gw1818 gs105 dX12_writes_95)) (JS.seq (pc1 := 108) (JS.call (pc1 := 105) (JA.r (JX.al (k := 0) rfl dX12_writes_98) (JA.i (JX.iadd (pc1 := 102) (pc2 := 103) (JX.sp (n := 21398) ks21398 dX12_writes_99) (JX.il (k := 2) rfl dX12_writes_102) dX12_writes_103) (JA.i (JX.ic (n := 0) rfl dX12_writes_104) JA.nil))) aX12_puts (RunK.V (i := 450) (c := 12) (n := 2) cl12 rfl (CN nX12_puts (by decide) (by decide)) gw1816 gw1818 gs105 dX12_writes_105)) (JS.seq (pc1 := 113) (JS.call (pc1 := 110) (JA.r (JX.al (k := 0) rfl dX12_writes_108) (JA.i (JX.il (k := 2) rfl dX12_writes_109) JA.nil)) aX12_lays (RunK.V (i := 478) (c := 12) (n := 1) cl12 rfl (CN nX12_lays (by decide) (by decide)) gw1820 gw1822 gs106 dX12_writes_110)) (JS.retI (pc1 := 114) (JX.il (k := 2) rfl dX12_writes_113) dX12_writes_114)))))))))
def mX12_writes : MS := runM 4 (some (.int)) bX12_writes
theorem aX12_writes : MA yX12_writes cX12_writes 4 (some (.int)) 4 mX12_writes := MA.of (plainFor_of_name (by decide)) jX12_writes
theorem eX12_writes (a0 : Nat) (a1 : Int32) (h : AH) : mX12_writes [.ref a0, .int a1] h = (bX12_writes [.val (.ref a0), .val (.int a1), .unset, .unset] h).bind (finM (some (.int))) := rfl
/-! PieceStoreModel.savesSegment -/
theorem dX12_savesSegment_0 : decode cX12_savesSegment 0 = .ok (.aload_n 0, 1) := by decide +kernel
theorem dX12_savesSegment_1 : decode cX12_savesSegment 1 = .ok (.getfield 117, 3) := by decide +kernel
theorem dX12_savesSegment_4 : decode cX12_savesSegment 4 = .ok (.iconst 0, 1) := by decide +kernel
theorem dX12_savesSegment_5 : decode cX12_savesSegment 5 = .ok (.iaload, 1) := by decide +kernel
theorem dX12_savesSegment_6 : decode cX12_savesSegment 6 = .ok (.istore_n 3, 1) := by decide +kernel
theorem dX12_savesSegment_7 : decode cX12_savesSegment 7 = .ok (.iconst 0, 1) := by decide +kernel
theorem dX12_savesSegment_8 : decode cX12_savesSegment 8 = .ok (.istore 4, 2) := by decide +kernel
theorem dX12_savesSegment_10 : decode cX12_savesSegment 10 = .ok (.aload_n 0, 1) := by decide +kernel
theorem dX12_savesSegment_11 : decode cX12_savesSegment 11 = .ok (.iload_n 1, 1) := by decide +kernel
theorem dX12_savesSegment_12 : decode cX12_savesSegment 12 = .ok (.iload_n 2, 1) := by decide +kernel
theorem dX12_savesSegment_13 : decode cX12_savesSegment 13 = .ok (.invokevirtual 481, 3) := by decide +kernel
theorem dX12_savesSegment_16 : decode cX12_savesSegment 16 = .ok (.aload_n 0, 1) := by decide +kernel
theorem dX12_savesSegment_17 : decode cX12_savesSegment 17 = .ok (.iload_n 2, 1) := by decide +kernel
theorem dX12_savesSegment_18 : decode cX12_savesSegment 18 = .ok (.iload_n 1, 1) := by decide +kernel
theorem dX12_savesSegment_19 : decode cX12_savesSegment 19 = .ok (.isub, 1) := by decide +kernel
theorem dX12_savesSegment_20 : decode cX12_savesSegment 20 = .ok (.invokevirtual 484, 3) := by decide +kernel
theorem dX12_savesSegment_23 : decode cX12_savesSegment 23 = .ok (.iload_n 1, 1) := by decide +kernel
theorem dX12_savesSegment_24 : decode cX12_savesSegment 24 = .ok (.istore 5, 2) := by decide +kernel
theorem dX12_savesSegment_26 : decode cX12_savesSegment 26 = .ok (.iload 5, 2) := by decide +kernel
theorem dX12_savesSegment_28 : decode cX12_savesSegment 28 = .ok (.iload_n 2, 1) := by decide +kernel
theorem dX12_savesSegment_29 : decode cX12_savesSegment 29 = .ok (.if_icmp .ge 61, 3) := by decide +kernel
theorem dX12_savesSegment_32 : decode cX12_savesSegment 32 = .ok (.aload_n 0, 1) := by decide +kernel
theorem dX12_savesSegment_33 : decode cX12_savesSegment 33 = .ok (.iload 5, 2) := by decide +kernel
theorem dX12_savesSegment_35 : decode cX12_savesSegment 35 = .ok (.iload_n 3, 1) := by decide +kernel
theorem dX12_savesSegment_36 : decode cX12_savesSegment 36 = .ok (.invokevirtual 487, 3) := by decide +kernel
theorem dX12_savesSegment_39 : decode cX12_savesSegment 39 = .ok (.istore 6, 2) := by decide +kernel
theorem dX12_savesSegment_41 : decode cX12_savesSegment 41 = .ok (.iload 6, 2) := by decide +kernel
theorem dX12_savesSegment_43 : decode cX12_savesSegment 43 = .ok (.iconst (-1), 1) := by decide +kernel
theorem dX12_savesSegment_44 : decode cX12_savesSegment 44 = .ok (.if_icmp .ne 14, 3) := by decide +kernel
theorem dX12_savesSegment_47 : decode cX12_savesSegment 47 = .ok (.aload_n 0, 1) := by decide +kernel
theorem dX12_savesSegment_48 : decode cX12_savesSegment 48 = .ok (.iload 5, 2) := by decide +kernel
theorem dX12_savesSegment_50 : decode cX12_savesSegment 50 = .ok (.invokevirtual 490, 3) := by decide +kernel
theorem dX12_savesSegment_53 : decode cX12_savesSegment 53 = .ok (.istore 6, 2) := by decide +kernel
theorem dX12_savesSegment_55 : decode cX12_savesSegment 55 = .ok (.iinc 4 1, 3) := by decide +kernel
theorem dX12_savesSegment_58 : decode cX12_savesSegment 58 = .ok (.aload_n 0, 1) := by decide +kernel
theorem dX12_savesSegment_59 : decode cX12_savesSegment 59 = .ok (.getfield 139, 3) := by decide +kernel
theorem dX12_savesSegment_62 : decode cX12_savesSegment 62 = .ok (.aload_n 0, 1) := by decide +kernel
theorem dX12_savesSegment_63 : decode cX12_savesSegment 63 = .ok (.getfield 117, 3) := by decide +kernel
theorem dX12_savesSegment_66 : decode cX12_savesSegment 66 = .ok (.iconst 0, 1) := by decide +kernel
theorem dX12_savesSegment_67 : decode cX12_savesSegment 67 = .ok (.iaload, 1) := by decide +kernel
theorem dX12_savesSegment_68 : decode cX12_savesSegment 68 = .ok (.iload 6, 2) := by decide +kernel
theorem dX12_savesSegment_70 : decode cX12_savesSegment 70 = .ok (.iastore, 1) := by decide +kernel
theorem dX12_savesSegment_71 : decode cX12_savesSegment 71 = .ok (.aload_n 0, 1) := by decide +kernel
theorem dX12_savesSegment_72 : decode cX12_savesSegment 72 = .ok (.iconst 0, 1) := by decide +kernel
theorem dX12_savesSegment_73 : decode cX12_savesSegment 73 = .ok (.aload_n 0, 1) := by decide +kernel
theorem dX12_savesSegment_74 : decode cX12_savesSegment 74 = .ok (.getfield 117, 3) := by decide +kernel
theorem dX12_savesSegment_77 : decode cX12_savesSegment 77 = .ok (.iconst 0, 1) := by decide +kernel
theorem dX12_savesSegment_78 : decode cX12_savesSegment 78 = .ok (.iaload, 1) := by decide +kernel
theorem dX12_savesSegment_79 : decode cX12_savesSegment 79 = .ok (.iconst 1, 1) := by decide +kernel
theorem dX12_savesSegment_80 : decode cX12_savesSegment 80 = .ok (.iadd, 1) := by decide +kernel
theorem dX12_savesSegment_81 : decode cX12_savesSegment 81 = .ok (.invokevirtual 450, 3) := by decide +kernel
theorem dX12_savesSegment_84 : decode cX12_savesSegment 84 = .ok (.iinc 5 1, 3) := by decide +kernel
theorem dX12_savesSegment_87 : decode cX12_savesSegment 87 = .ok (.goto (-61), 3) := by decide +kernel
theorem dX12_savesSegment_90 : decode cX12_savesSegment 90 = .ok (.aload_n 0, 1) := by decide +kernel
theorem dX12_savesSegment_91 : decode cX12_savesSegment 91 = .ok (.getfield 117, 3) := by decide +kernel
theorem dX12_savesSegment_94 : decode cX12_savesSegment 94 = .ok (.iconst 3, 1) := by decide +kernel
theorem dX12_savesSegment_95 : decode cX12_savesSegment 95 = .ok (.iaload, 1) := by decide +kernel
theorem dX12_savesSegment_96 : decode cX12_savesSegment 96 = .ok (.istore 5, 2) := by decide +kernel
theorem dX12_savesSegment_98 : decode cX12_savesSegment 98 = .ok (.aload_n 0, 1) := by decide +kernel
theorem dX12_savesSegment_99 : decode cX12_savesSegment 99 = .ok (.getfield 151, 3) := by decide +kernel
theorem dX12_savesSegment_102 : decode cX12_savesSegment 102 = .ok (.iload 5, 2) := by decide +kernel
theorem dX12_savesSegment_104 : decode cX12_savesSegment 104 = .ok (.iload_n 3, 1) := by decide +kernel
theorem dX12_savesSegment_105 : decode cX12_savesSegment 105 = .ok (.iastore, 1) := by decide +kernel
theorem dX12_savesSegment_106 : decode cX12_savesSegment 106 = .ok (.aload_n 0, 1) := by decide +kernel
theorem dX12_savesSegment_107 : decode cX12_savesSegment 107 = .ok (.getfield 154, 3) := by decide +kernel
theorem dX12_savesSegment_110 : decode cX12_savesSegment 110 = .ok (.iload 5, 2) := by decide +kernel
theorem dX12_savesSegment_112 : decode cX12_savesSegment 112 = .ok (.iload_n 2, 1) := by decide +kernel
theorem dX12_savesSegment_113 : decode cX12_savesSegment 113 = .ok (.iload_n 1, 1) := by decide +kernel
theorem dX12_savesSegment_114 : decode cX12_savesSegment 114 = .ok (.isub, 1) := by decide +kernel
theorem dX12_savesSegment_115 : decode cX12_savesSegment 115 = .ok (.iastore, 1) := by decide +kernel
theorem dX12_savesSegment_116 : decode cX12_savesSegment 116 = .ok (.aload_n 0, 1) := by decide +kernel
theorem dX12_savesSegment_117 : decode cX12_savesSegment 117 = .ok (.iconst 3, 1) := by decide +kernel
theorem dX12_savesSegment_118 : decode cX12_savesSegment 118 = .ok (.iload 5, 2) := by decide +kernel
theorem dX12_savesSegment_120 : decode cX12_savesSegment 120 = .ok (.iconst 1, 1) := by decide +kernel
theorem dX12_savesSegment_121 : decode cX12_savesSegment 121 = .ok (.iadd, 1) := by decide +kernel
theorem dX12_savesSegment_122 : decode cX12_savesSegment 122 = .ok (.invokevirtual 450, 3) := by decide +kernel
theorem dX12_savesSegment_125 : decode cX12_savesSegment 125 = .ok (.iload_n 1, 1) := by decide +kernel
theorem dX12_savesSegment_126 : decode cX12_savesSegment 126 = .ok (.istore 6, 2) := by decide +kernel
theorem dX12_savesSegment_128 : decode cX12_savesSegment 128 = .ok (.iload 6, 2) := by decide +kernel
theorem dX12_savesSegment_130 : decode cX12_savesSegment 130 = .ok (.iload_n 2, 1) := by decide +kernel
theorem dX12_savesSegment_131 : decode cX12_savesSegment 131 = .ok (.if_icmp .ge 85, 3) := by decide +kernel
theorem dX12_savesSegment_134 : decode cX12_savesSegment 134 = .ok (.aload_n 0, 1) := by decide +kernel
theorem dX12_savesSegment_135 : decode cX12_savesSegment 135 = .ok (.getfield 182, 3) := by decide +kernel
theorem dX12_savesSegment_138 : decode cX12_savesSegment 138 = .ok (.iload 6, 2) := by decide +kernel
theorem dX12_savesSegment_140 : decode cX12_savesSegment 140 = .ok (.iload_n 1, 1) := by decide +kernel
theorem dX12_savesSegment_141 : decode cX12_savesSegment 141 = .ok (.isub, 1) := by decide +kernel
theorem dX12_savesSegment_142 : decode cX12_savesSegment 142 = .ok (.iaload, 1) := by decide +kernel
theorem dX12_savesSegment_143 : decode cX12_savesSegment 143 = .ok (.ifCond .ne 6, 3) := by decide +kernel
theorem dX12_savesSegment_146 : decode cX12_savesSegment 146 = .ok (.goto 64, 3) := by decide +kernel
theorem dX12_savesSegment_149 : decode cX12_savesSegment 149 = .ok (.aload_n 0, 1) := by decide +kernel
theorem dX12_savesSegment_150 : decode cX12_savesSegment 150 = .ok (.iload 6, 2) := by decide +kernel
theorem dX12_savesSegment_152 : decode cX12_savesSegment 152 = .ok (.invokevirtual 469, 3) := by decide +kernel
theorem dX12_savesSegment_155 : decode cX12_savesSegment 155 = .ok (.istore 7, 2) := by decide +kernel
theorem dX12_savesSegment_157 : decode cX12_savesSegment 157 = .ok (.iload 7, 2) := by decide +kernel
theorem dX12_savesSegment_159 : decode cX12_savesSegment 159 = .ok (.iconst (-1), 1) := by decide +kernel
theorem dX12_savesSegment_160 : decode cX12_savesSegment 160 = .ok (.if_icmp .ne 38, 3) := by decide +kernel
theorem dX12_savesSegment_163 : decode cX12_savesSegment 163 = .ok (.aload_n 0, 1) := by decide +kernel
theorem dX12_savesSegment_164 : decode cX12_savesSegment 164 = .ok (.getfield 117, 3) := by decide +kernel
theorem dX12_savesSegment_167 : decode cX12_savesSegment 167 = .ok (.iconst 4, 1) := by decide +kernel
theorem dX12_savesSegment_168 : decode cX12_savesSegment 168 = .ok (.iaload, 1) := by decide +kernel
theorem dX12_savesSegment_169 : decode cX12_savesSegment 169 = .ok (.istore 7, 2) := by decide +kernel
theorem dX12_savesSegment_171 : decode cX12_savesSegment 171 = .ok (.aload_n 0, 1) := by decide +kernel
theorem dX12_savesSegment_172 : decode cX12_savesSegment 172 = .ok (.getfield 157, 3) := by decide +kernel
theorem dX12_savesSegment_175 : decode cX12_savesSegment 175 = .ok (.iload 7, 2) := by decide +kernel
theorem dX12_savesSegment_177 : decode cX12_savesSegment 177 = .ok (.aload_n 0, 1) := by decide +kernel
theorem dX12_savesSegment_178 : decode cX12_savesSegment 178 = .ok (.getfield 139, 3) := by decide +kernel
theorem dX12_savesSegment_181 : decode cX12_savesSegment 181 = .ok (.iload_n 3, 1) := by decide +kernel
theorem dX12_savesSegment_182 : decode cX12_savesSegment 182 = .ok (.iload 6, 2) := by decide +kernel
theorem dX12_savesSegment_184 : decode cX12_savesSegment 184 = .ok (.iadd, 1) := by decide +kernel
theorem dX12_savesSegment_185 : decode cX12_savesSegment 185 = .ok (.iload_n 1, 1) := by decide +kernel
theorem dX12_savesSegment_186 : decode cX12_savesSegment 186 = .ok (.isub, 1) := by decide +kernel
theorem dX12_savesSegment_187 : decode cX12_savesSegment 187 = .ok (.iaload, 1) := by decide +kernel
theorem dX12_savesSegment_188 : decode cX12_savesSegment 188 = .ok (.iastore, 1) := by decide +kernel
theorem dX12_savesSegment_189 : decode cX12_savesSegment 189 = .ok (.aload_n 0, 1) := by decide +kernel
theorem dX12_savesSegment_190 : decode cX12_savesSegment 190 = .ok (.iconst 4, 1) := by decide +kernel
theorem dX12_savesSegment_191 : decode cX12_savesSegment 191 = .ok (.iload 7, 2) := by decide +kernel
theorem dX12_savesSegment_193 : decode cX12_savesSegment 193 = .ok (.iconst 1, 1) := by decide +kernel
theorem dX12_savesSegment_194 : decode cX12_savesSegment 194 = .ok (.iadd, 1) := by decide +kernel
theorem dX12_savesSegment_195 : decode cX12_savesSegment 195 = .ok (.invokevirtual 450, 3) := by decide +kernel
theorem dX12_savesSegment_198 : decode cX12_savesSegment 198 = .ok (.aload_n 0, 1) := by decide +kernel
theorem dX12_savesSegment_199 : decode cX12_savesSegment 199 = .ok (.sipush 31698, 3) := by decide +kernel
theorem dX12_savesSegment_202 : decode cX12_savesSegment 202 = .ok (.iload 7, 2) := by decide +kernel
theorem dX12_savesSegment_204 : decode cX12_savesSegment 204 = .ok (.iadd, 1) := by decide +kernel
theorem dX12_savesSegment_205 : decode cX12_savesSegment 205 = .ok (.iload 5, 2) := by decide +kernel
theorem dX12_savesSegment_207 : decode cX12_savesSegment 207 = .ok (.invokevirtual 450, 3) := by decide +kernel
theorem dX12_savesSegment_210 : decode cX12_savesSegment 210 = .ok (.iinc 6 1, 3) := by decide +kernel
theorem dX12_savesSegment_213 : decode cX12_savesSegment 213 = .ok (.goto (-85), 3) := by decide +kernel
theorem dX12_savesSegment_216 : decode cX12_savesSegment 216 = .ok (.iload 4, 2) := by decide +kernel
theorem dX12_savesSegment_218 : decode cX12_savesSegment 218 = .ok (.ireturn, 1) := by decide +kernel
abbrev MX12_savesSegment : MI := (RX12, cX12_savesSegment, 8, 6, false)
def lcX12_savesSegment_1 : Ex Bool := (ltI (lvI 5) (lvI 2))
def lbX12_savesSegment_1 : St := (forB (scS 6 (seqS (lsI 6 (calX decI (ckV 12 2) mX12_had (agC va_rf (lvR 0) (agC Value.int (lvI 5) (agC Value.int (lvI 3) agN))))) (seqS (ifS (eqI (lvI 6) (ciI (iI (-1)))) (seqS (lsI 6 (calX decI (ckV 12 1) mX12_writes (agC va_rf (lvR 0) (agC Value.int (lvI 5) agN)))) (incI 4 (iI 1)))) (seqS (astI (getR 12 41 (lvR 0)) (aldI 2 (getR 12 34 (lvR 0)) (ciI (iI 0))) (lvI 6)) (calS (ckV 12 2) mX12_puts (agC va_rf (lvR 0) (agC Value.int (ciI (iI 0)) (agC Value.int (addI (aldI 2 (getR 12 34 (lvR 0)) (ciI (iI 0))) (ciI (iI 1))) agN)))))))) (incI 5 (iI 1)))
def lcX12_savesSegment_2 : Ex Bool := (ltI (lvI 6) (lvI 2))
def lbX12_savesSegment_2 : St := (forB (scS 7 (seqS (ifS (eq0 (aldI 2 (getR 12 55 (lvR 0)) (subI (lvI 6) (lvI 1)))) contS) (seqS (lsI 7 (calX decI (ckV 12 1) mX12_hookLike (agC va_rf (lvR 0) (agC Value.int (lvI 6) agN)))) (seqS (ifS (eqI (lvI 7) (ciI (iI (-1)))) (seqS (lsI 7 (aldI 2 (getR 12 34 (lvR 0)) (ciI (iI 4)))) (seqS (astI (getR 12 47 (lvR 0)) (lvI 7) (aldI 2 (getR 12 41 (lvR 0)) (subI (addI (lvI 3) (lvI 6)) (lvI 1)))) (calS (ckV 12 2) mX12_puts (agC va_rf (lvR 0) (agC Value.int (ciI (iI 4)) (agC Value.int (addI (lvI 7) (ciI (iI 1))) agN))))))) (calS (ckV 12 2) mX12_puts (agC va_rf (lvR 0) (agC Value.int (addI (ciI (iI 31698)) (lvI 7)) (agC Value.int (lvI 5) agN)))))))) (incI 6 (iI 1)))
def bX12_savesSegment : St := (seqS (lsI 3 (aldI 2 (getR 12 34 (lvR 0)) (ciI (iI 0)))) (seqS (lsI 4 (ciI (iI 0))) (seqS (calS (ckV 12 2) mX12_hooksOf (agC va_rf (lvR 0) (agC Value.int (lvI 1) (agC Value.int (lvI 2) agN)))) (seqS (calS (ckV 12 1) mX12_findsChampions (agC va_rf (lvR 0) (agC Value.int (subI (lvI 2) (lvI 1)) agN))) (seqS (scS 5 (seqS (lsI 5 (lvI 1)) (whileS lcX12_savesSegment_1 lbX12_savesSegment_1))) (seqS (lsI 5 (aldI 2 (getR 12 34 (lvR 0)) (ciI (iI 3)))) (seqS (astI (getR 12 45 (lvR 0)) (lvI 5) (lvI 3)) (seqS (astI (getR 12 46 (lvR 0)) (lvI 5) (subI (lvI 2) (lvI 1))) (seqS (calS (ckV 12 2) mX12_puts (agC va_rf (lvR 0) (agC Value.int (ciI (iI 3)) (agC Value.int (addI (lvI 5) (ciI (iI 1))) agN)))) (seqS (scS 6 (seqS (lsI 6 (lvI 1)) (whileS lcX12_savesSegment_2 lbX12_savesSegment_2))) (retI (lvI 4))))))))))))
theorem jX12_savesSegment : JS MX12_savesSegment 0 0 0 219 [] bX12_savesSegment :=
  (JS.seq (pc1 := 7) (JS.is (pc1 := 6) (k := 3) (JX.iald (pc1 := 4) (pc2 := 5) (JX.getR (pc1 := 1) (c := 12) (k := 34) (i := 117) (JX.al (k := 0) rfl dX12_savesSegment_0) cl12 (by decide) rfl fk12_117 dX12_savesSegment_1) (JX.ic (n := 0) rfl dX12_savesSegment_4) dX12_savesSegment_5) rfl (show 3 < 8 by decide) dX12_savesSegment_6) (JS.seq (pc1 := 10) (JS.is2 (pc1 := 8) (JX.ic (n := 0) rfl dX12_savesSegment_7) (show 4 < 8 by decide) dX12_savesSegment_8) (JS.seq (pc1 := 16) (JS.call (pc1 := 13) (JA.r (JX.al (k := 0) rfl dX12_savesSegment_10) (JA.i (JX.il (k := 1) rfl dX12_savesSegment_11) (JA.i (JX.il (k := 2) rfl dX12_savesSegment_12) JA.nil))) aX12_hooksOf (RunK.V (i := 481) (c := 12) (n := 2) cl12 rfl (CN nX12_hooksOf (by decide) (by decide)) gw1765 gw1767 gs93 dX12_savesSegment_13)) (JS.seq (pc1 := 23) (JS.call (pc1 := 20) (JA.r (JX.al (k := 0) rfl dX12_savesSegment_16) (JA.i (JX.isub (pc1 := 18) (pc2 := 19) (JX.il (k := 2) rfl dX12_savesSegment_17) (JX.il (k := 1) rfl dX12_savesSegment_18) dX12_savesSegment_19) JA.nil)) aX12_findsChampions (RunK.V (i := 484) (c := 12) (n := 1) cl12 rfl (CN nX12_findsChampions (by decide) (by decide)) gw1796 gw1798 gs100 dX12_savesSegment_20)) (JS.seq (pc1 := 90) (JS.sc (JS.seq (pc1 := 26) (JS.is2 (pc1 := 24) (JX.il (k := 1) rfl dX12_savesSegment_23) (show 5 < 8 by decide) dX12_savesSegment_24) (JS.while (l := 90) (lb := 90) (pc1 := 32) (pc2 := 87) (pc3 := 90) (CJ.lt_f (tgt := 90) (pc1 := 28) (pc2 := 29) (JX.il2 dX12_savesSegment_26) (JX.il (k := 2) rfl dX12_savesSegment_28) dX12_savesSegment_29 rfl) (JS.forb (pc1 := 84) (JS.sc (JS.seq (pc1 := 41) (JS.is2 (pc1 := 39) (JX.call (pc1 := 36) decI_ok (JA.r (JX.al (k := 0) rfl dX12_savesSegment_32) (JA.i (JX.il2 dX12_savesSegment_33) (JA.i (JX.il (k := 3) rfl dX12_savesSegment_35) JA.nil))) aX12_had (RunK.V (i := 487) (c := 12) (n := 2) cl12 rfl (CN nX12_had (by decide) (by decide)) gw1808 gw1810 gs103 dX12_savesSegment_36) (by decide)) (show 6 < 8 by decide) dX12_savesSegment_39) (JS.seq (pc1 := 58) (JS.iff (l := 58) (pc1 := 47) (CJ.eq_f (tgt := 58) (pc1 := 43) (pc2 := 44) (JX.il2 dX12_savesSegment_41) (JX.ic (n := (-1)) rfl dX12_savesSegment_43) dX12_savesSegment_44 rfl) (JS.seq (pc1 := 55) (JS.is2 (pc1 := 53) (JX.call (pc1 := 50) decI_ok (JA.r (JX.al (k := 0) rfl dX12_savesSegment_47) (JA.i (JX.il2 dX12_savesSegment_48) JA.nil)) aX12_writes (RunK.V (i := 490) (c := 12) (n := 1) cl12 rfl (CN nX12_writes (by decide) (by decide)) gw1812 gw1814 gs104 dX12_savesSegment_50) (by decide)) (show 6 < 8 by decide) dX12_savesSegment_53) (JS.inc (n := 1) rfl (show 4 < 8 by decide) dX12_savesSegment_55)) (Or.inl rfl)) (JS.seq (pc1 := 71) (JS.ia (pc1 := 62) (pc2 := 68) (pc3 := 70) (JX.getR (pc1 := 59) (c := 12) (k := 41) (i := 139) (JX.al (k := 0) rfl dX12_savesSegment_58) cl12 (by decide) rfl fk12_139 dX12_savesSegment_59) (JX.iald (pc1 := 66) (pc2 := 67) (JX.getR (pc1 := 63) (c := 12) (k := 34) (i := 117) (JX.al (k := 0) rfl dX12_savesSegment_62) cl12 (by decide) rfl fk12_117 dX12_savesSegment_63) (JX.ic (n := 0) rfl dX12_savesSegment_66) dX12_savesSegment_67) (JX.il2 dX12_savesSegment_68) dX12_savesSegment_70) (JS.call (pc1 := 81) (JA.r (JX.al (k := 0) rfl dX12_savesSegment_71) (JA.i (JX.ic (n := 0) rfl dX12_savesSegment_72) (JA.i (JX.iadd (pc1 := 79) (pc2 := 80) (JX.iald (pc1 := 77) (pc2 := 78) (JX.getR (pc1 := 74) (c := 12) (k := 34) (i := 117) (JX.al (k := 0) rfl dX12_savesSegment_73) cl12 (by decide) rfl fk12_117 dX12_savesSegment_74) (JX.ic (n := 0) rfl dX12_savesSegment_77) dX12_savesSegment_78) (JX.ic (n := 1) rfl dX12_savesSegment_79) dX12_savesSegment_80) JA.nil))) aX12_puts (RunK.V (i := 450) (c := 12) (n := 2) cl12 rfl (CN nX12_puts (by decide) (by decide)) gw1816 gw1818 gs105 dX12_savesSegment_81)))))) (JS.inc (n := 1) rfl (show 5 < 8 by decide) dX12_savesSegment_84)) dX12_savesSegment_87 rfl (Or.inl rfl) (Or.inl rfl)))) (JS.seq (pc1 := 98) (JS.is2 (pc1 := 96) (JX.iald (pc1 := 94) (pc2 := 95) (JX.getR (pc1 := 91) (c := 12) (k := 34) (i := 117) (JX.al (k := 0) rfl dX12_savesSegment_90) cl12 (by decide) rfl fk12_117 dX12_savesSegment_91) (JX.ic (n := 3) rfl dX12_savesSegment_94) dX12_savesSegment_95) (show 5 < 8 by decide) dX12_savesSegment_96) (JS.seq (pc1 := 106) (JS.ia (pc1 := 102) (pc2 := 104) (pc3 := 105) (JX.getR (pc1 := 99) (c := 12) (k := 45) (i := 151) (JX.al (k := 0) rfl dX12_savesSegment_98) cl12 (by decide) rfl fk12_151 dX12_savesSegment_99) (JX.il2 dX12_savesSegment_102) (JX.il (k := 3) rfl dX12_savesSegment_104) dX12_savesSegment_105) (JS.seq (pc1 := 116) (JS.ia (pc1 := 110) (pc2 := 112) (pc3 := 115) (JX.getR (pc1 := 107) (c := 12) (k := 46) (i := 154) (JX.al (k := 0) rfl dX12_savesSegment_106) cl12 (by decide) rfl fk12_154 dX12_savesSegment_107) (JX.il2 dX12_savesSegment_110) (JX.isub (pc1 := 113) (pc2 := 114) (JX.il (k := 2) rfl dX12_savesSegment_112) (JX.il (k := 1) rfl dX12_savesSegment_113) dX12_savesSegment_114) dX12_savesSegment_115) (JS.seq (pc1 := 125) (JS.call (pc1 := 122) (JA.r (JX.al (k := 0) rfl dX12_savesSegment_116) (JA.i (JX.ic (n := 3) rfl dX12_savesSegment_117) (JA.i (JX.iadd (pc1 := 120) (pc2 := 121) (JX.il2 dX12_savesSegment_118) (JX.ic (n := 1) rfl dX12_savesSegment_120) dX12_savesSegment_121) JA.nil))) aX12_puts (RunK.V (i := 450) (c := 12) (n := 2) cl12 rfl (CN nX12_puts (by decide) (by decide)) gw1816 gw1818 gs105 dX12_savesSegment_122)) (JS.seq (pc1 := 216) (JS.sc (JS.seq (pc1 := 128) (JS.is2 (pc1 := 126) (JX.il (k := 1) rfl dX12_savesSegment_125) (show 6 < 8 by decide) dX12_savesSegment_126) (JS.while (l := 216) (lb := 216) (pc1 := 134) (pc2 := 213) (pc3 := 216) (CJ.lt_f (tgt := 216) (pc1 := 130) (pc2 := 131) (JX.il2 dX12_savesSegment_128) (JX.il (k := 2) rfl dX12_savesSegment_130) dX12_savesSegment_131 rfl) (JS.forb (pc1 := 210) (JS.sc (JS.seq (pc1 := 149) (JS.ifc (l := 149) (pc1 := 146) (CJ.eq0_f (tgt := 149) (pc1 := 143) (JX.iald (pc1 := 138) (pc2 := 142) (JX.getR (pc1 := 135) (c := 12) (k := 55) (i := 182) (JX.al (k := 0) rfl dX12_savesSegment_134) cl12 (by decide) rfl fk12_182 dX12_savesSegment_135) (JX.isub (pc1 := 140) (pc2 := 141) (JX.il2 dX12_savesSegment_138) (JX.il (k := 1) rfl dX12_savesSegment_140) dX12_savesSegment_141) dX12_savesSegment_142) dX12_savesSegment_143 rfl) dX12_savesSegment_146 rfl (Or.inl rfl)) (JS.seq (pc1 := 157) (JS.is2 (pc1 := 155) (JX.call (pc1 := 152) decI_ok (JA.r (JX.al (k := 0) rfl dX12_savesSegment_149) (JA.i (JX.il2 dX12_savesSegment_150) JA.nil)) aX12_hookLike (RunK.V (i := 469) (c := 12) (n := 1) cl12 rfl (CN nX12_hookLike (by decide) (by decide)) gw1788 gw1790 gs98 dX12_savesSegment_152) (by decide)) (show 7 < 8 by decide) dX12_savesSegment_155) (JS.seq (pc1 := 198) (JS.iff (l := 198) (pc1 := 163) (CJ.eq_f (tgt := 198) (pc1 := 159) (pc2 := 160) (JX.il2 dX12_savesSegment_157) (JX.ic (n := (-1)) rfl dX12_savesSegment_159) dX12_savesSegment_160 rfl) (JS.seq (pc1 := 171) (JS.is2 (pc1 := 169) (JX.iald (pc1 := 167) (pc2 := 168) (JX.getR (pc1 := 164) (c := 12) (k := 34) (i := 117) (JX.al (k := 0) rfl dX12_savesSegment_163) cl12 (by decide) rfl fk12_117 dX12_savesSegment_164) (JX.ic (n := 4) rfl dX12_savesSegment_167) dX12_savesSegment_168) (show 7 < 8 by decide) dX12_savesSegment_169) (JS.seq (pc1 := 189) (JS.ia (pc1 := 175) (pc2 := 177) (pc3 := 188) (JX.getR (pc1 := 172) (c := 12) (k := 47) (i := 157) (JX.al (k := 0) rfl dX12_savesSegment_171) cl12 (by decide) rfl fk12_157 dX12_savesSegment_172) (JX.il2 dX12_savesSegment_175) (JX.iald (pc1 := 181) (pc2 := 187) (JX.getR (pc1 := 178) (c := 12) (k := 41) (i := 139) (JX.al (k := 0) rfl dX12_savesSegment_177) cl12 (by decide) rfl fk12_139 dX12_savesSegment_178) (JX.isub (pc1 := 185) (pc2 := 186) (JX.iadd (pc1 := 182) (pc2 := 184) (JX.il (k := 3) rfl dX12_savesSegment_181) (JX.il2 dX12_savesSegment_182) dX12_savesSegment_184) (JX.il (k := 1) rfl dX12_savesSegment_185) dX12_savesSegment_186) dX12_savesSegment_187) dX12_savesSegment_188) (JS.call (pc1 := 195) (JA.r (JX.al (k := 0) rfl dX12_savesSegment_189) (JA.i (JX.ic (n := 4) rfl dX12_savesSegment_190) (JA.i (JX.iadd (pc1 := 193) (pc2 := 194) (JX.il2 dX12_savesSegment_191) (JX.ic (n := 1) rfl dX12_savesSegment_193) dX12_savesSegment_194) JA.nil))) aX12_puts (RunK.V (i := 450) (c := 12) (n := 2) cl12 rfl (CN nX12_puts (by decide) (by decide)) gw1816 gw1818 gs105 dX12_savesSegment_195)))) (Or.inl rfl)) (JS.call (pc1 := 207) (JA.r (JX.al (k := 0) rfl dX12_savesSegment_198) (JA.i (JX.iadd (pc1 := 202) (pc2 := 204) (JX.sp (n := 31698) ks31698 dX12_savesSegment_199) (JX.il2 dX12_savesSegment_202) dX12_savesSegment_204) (JA.i (JX.il2 dX12_savesSegment_205) JA.nil))) aX12_puts (RunK.V (i := 450) (c := 12) (n := 2) cl12 rfl (CN nX12_puts (by decide) (by decide)) gw1816 gw1818 gs105 dX12_savesSegment_207)))))) (JS.inc (n := 1) rfl (show 6 < 8 by decide) dX12_savesSegment_210)) dX12_savesSegment_213 rfl (Or.inl rfl) (Or.inl rfl)))) (JS.retI (pc1 := 218) (JX.il2 dX12_savesSegment_216) dX12_savesSegment_218)))))))))))
def mX12_savesSegment : MS := runM 8 (some (.int)) bX12_savesSegment
theorem aX12_savesSegment : MA yX12_savesSegment cX12_savesSegment 8 (some (.int)) 6 mX12_savesSegment := MA.of (plainFor_of_name (by decide)) jX12_savesSegment
theorem eX12_savesSegment (a0 : Nat) (a1 : Int32) (a2 : Int32) (h : AH) : mX12_savesSegment [.ref a0, .int a1, .int a2] h = (bX12_savesSegment [.val (.ref a0), .val (.int a1), .val (.int a2), .unset, .unset, .unset, .unset, .unset] h).bind (finM (some (.int))) := rfl
/-! PieceStoreModel.writesDown -/
theorem dX12_writesDown_0 : decode cX12_writesDown 0 = .ok (.aload_n 0, 1) := by decide +kernel
theorem dX12_writesDown_1 : decode cX12_writesDown 1 = .ok (.getfield 117, 3) := by decide +kernel
theorem dX12_writesDown_4 : decode cX12_writesDown 4 = .ok (.bipush 7, 2) := by decide +kernel
theorem dX12_writesDown_6 : decode cX12_writesDown 6 = .ok (.iaload, 1) := by decide +kernel
theorem dX12_writesDown_7 : decode cX12_writesDown 7 = .ok (.bipush 40, 2) := by decide +kernel
theorem dX12_writesDown_9 : decode cX12_writesDown 9 = .ok (.if_icmp .ne 41, 3) := by decide +kernel
theorem dX12_writesDown_12 : decode cX12_writesDown 12 = .ok (.sipush 678, 3) := by decide +kernel
theorem dX12_writesDown_15 : decode cX12_writesDown 15 = .ok (.istore_n 3, 1) := by decide +kernel
theorem dX12_writesDown_16 : decode cX12_writesDown 16 = .ok (.iload_n 3, 1) := by decide +kernel
theorem dX12_writesDown_17 : decode cX12_writesDown 17 = .ok (.sipush 795, 3) := by decide +kernel
theorem dX12_writesDown_20 : decode cX12_writesDown 20 = .ok (.if_icmp .ge 22, 3) := by decide +kernel
theorem dX12_writesDown_23 : decode cX12_writesDown 23 = .ok (.aload_n 0, 1) := by decide +kernel
theorem dX12_writesDown_24 : decode cX12_writesDown 24 = .ok (.iload_n 3, 1) := by decide +kernel
theorem dX12_writesDown_25 : decode cX12_writesDown 25 = .ok (.aload_n 0, 1) := by decide +kernel
theorem dX12_writesDown_26 : decode cX12_writesDown 26 = .ok (.getfield 117, 3) := by decide +kernel
theorem dX12_writesDown_29 : decode cX12_writesDown 29 = .ok (.iload_n 3, 1) := by decide +kernel
theorem dX12_writesDown_30 : decode cX12_writesDown 30 = .ok (.iconst 3, 1) := by decide +kernel
theorem dX12_writesDown_31 : decode cX12_writesDown 31 = .ok (.iadd, 1) := by decide +kernel
theorem dX12_writesDown_32 : decode cX12_writesDown 32 = .ok (.iaload, 1) := by decide +kernel
theorem dX12_writesDown_33 : decode cX12_writesDown 33 = .ok (.invokevirtual 450, 3) := by decide +kernel
theorem dX12_writesDown_36 : decode cX12_writesDown 36 = .ok (.iinc 3 1, 3) := by decide +kernel
theorem dX12_writesDown_39 : decode cX12_writesDown 39 = .ok (.goto (-23), 3) := by decide +kernel
theorem dX12_writesDown_42 : decode cX12_writesDown 42 = .ok (.aload_n 0, 1) := by decide +kernel
theorem dX12_writesDown_43 : decode cX12_writesDown 43 = .ok (.bipush 7, 2) := by decide +kernel
theorem dX12_writesDown_45 : decode cX12_writesDown 45 = .ok (.bipush 39, 2) := by decide +kernel
theorem dX12_writesDown_47 : decode cX12_writesDown 47 = .ok (.invokevirtual 450, 3) := by decide +kernel
theorem dX12_writesDown_50 : decode cX12_writesDown 50 = .ok (.sipush 678, 3) := by decide +kernel
theorem dX12_writesDown_53 : decode cX12_writesDown 53 = .ok (.iconst 3, 1) := by decide +kernel
theorem dX12_writesDown_54 : decode cX12_writesDown 54 = .ok (.aload_n 0, 1) := by decide +kernel
theorem dX12_writesDown_55 : decode cX12_writesDown 55 = .ok (.getfield 117, 3) := by decide +kernel
theorem dX12_writesDown_58 : decode cX12_writesDown 58 = .ok (.bipush 7, 2) := by decide +kernel
theorem dX12_writesDown_60 : decode cX12_writesDown 60 = .ok (.iaload, 1) := by decide +kernel
theorem dX12_writesDown_61 : decode cX12_writesDown 61 = .ok (.imul, 1) := by decide +kernel
theorem dX12_writesDown_62 : decode cX12_writesDown 62 = .ok (.iadd, 1) := by decide +kernel
theorem dX12_writesDown_63 : decode cX12_writesDown 63 = .ok (.istore_n 3, 1) := by decide +kernel
theorem dX12_writesDown_64 : decode cX12_writesDown 64 = .ok (.aload_n 0, 1) := by decide +kernel
theorem dX12_writesDown_65 : decode cX12_writesDown 65 = .ok (.iload_n 3, 1) := by decide +kernel
theorem dX12_writesDown_66 : decode cX12_writesDown 66 = .ok (.aload_n 0, 1) := by decide +kernel
theorem dX12_writesDown_67 : decode cX12_writesDown 67 = .ok (.getfield 117, 3) := by decide +kernel
theorem dX12_writesDown_70 : decode cX12_writesDown 70 = .ok (.bipush 6, 2) := by decide +kernel
theorem dX12_writesDown_72 : decode cX12_writesDown 72 = .ok (.iaload, 1) := by decide +kernel
theorem dX12_writesDown_73 : decode cX12_writesDown 73 = .ok (.invokevirtual 450, 3) := by decide +kernel
theorem dX12_writesDown_76 : decode cX12_writesDown 76 = .ok (.aload_n 0, 1) := by decide +kernel
theorem dX12_writesDown_77 : decode cX12_writesDown 77 = .ok (.iload_n 3, 1) := by decide +kernel
theorem dX12_writesDown_78 : decode cX12_writesDown 78 = .ok (.iconst 1, 1) := by decide +kernel
theorem dX12_writesDown_79 : decode cX12_writesDown 79 = .ok (.iadd, 1) := by decide +kernel
theorem dX12_writesDown_80 : decode cX12_writesDown 80 = .ok (.iload_n 1, 1) := by decide +kernel
theorem dX12_writesDown_81 : decode cX12_writesDown 81 = .ok (.invokevirtual 450, 3) := by decide +kernel
theorem dX12_writesDown_84 : decode cX12_writesDown 84 = .ok (.aload_n 0, 1) := by decide +kernel
theorem dX12_writesDown_85 : decode cX12_writesDown 85 = .ok (.iload_n 3, 1) := by decide +kernel
theorem dX12_writesDown_86 : decode cX12_writesDown 86 = .ok (.iconst 2, 1) := by decide +kernel
theorem dX12_writesDown_87 : decode cX12_writesDown 87 = .ok (.iadd, 1) := by decide +kernel
theorem dX12_writesDown_88 : decode cX12_writesDown 88 = .ok (.iload_n 2, 1) := by decide +kernel
theorem dX12_writesDown_89 : decode cX12_writesDown 89 = .ok (.invokevirtual 450, 3) := by decide +kernel
theorem dX12_writesDown_92 : decode cX12_writesDown 92 = .ok (.aload_n 0, 1) := by decide +kernel
theorem dX12_writesDown_93 : decode cX12_writesDown 93 = .ok (.bipush 7, 2) := by decide +kernel
theorem dX12_writesDown_95 : decode cX12_writesDown 95 = .ok (.aload_n 0, 1) := by decide +kernel
theorem dX12_writesDown_96 : decode cX12_writesDown 96 = .ok (.getfield 117, 3) := by decide +kernel
theorem dX12_writesDown_99 : decode cX12_writesDown 99 = .ok (.bipush 7, 2) := by decide +kernel
theorem dX12_writesDown_101 : decode cX12_writesDown 101 = .ok (.iaload, 1) := by decide +kernel
theorem dX12_writesDown_102 : decode cX12_writesDown 102 = .ok (.iconst 1, 1) := by decide +kernel
theorem dX12_writesDown_103 : decode cX12_writesDown 103 = .ok (.iadd, 1) := by decide +kernel
theorem dX12_writesDown_104 : decode cX12_writesDown 104 = .ok (.invokevirtual 450, 3) := by decide +kernel
theorem dX12_writesDown_107 : decode cX12_writesDown 107 = .ok (.return_, 1) := by decide +kernel
abbrev MX12_writesDown : MI := (RX12, cX12_writesDown, 4, 2, false)
def lcX12_writesDown_1 : Ex Bool := (ltI (lvI 3) (ciI (iI 795)))
def lbX12_writesDown_1 : St := (forB (calS (ckV 12 2) mX12_puts (agC va_rf (lvR 0) (agC Value.int (lvI 3) (agC Value.int (aldI 2 (getR 12 34 (lvR 0)) (addI (lvI 3) (ciI (iI 3)))) agN)))) (incI 3 (iI 1)))
def bX12_writesDown : St := (seqS (ifS (eqI (aldI 2 (getR 12 34 (lvR 0)) (ciI (iI 7))) (ciI (iI 40))) (seqS (scS 3 (seqS (lsI 3 (ciI (iI 678))) (whileS lcX12_writesDown_1 lbX12_writesDown_1))) (calS (ckV 12 2) mX12_puts (agC va_rf (lvR 0) (agC Value.int (ciI (iI 7)) (agC Value.int (ciI (iI 39)) agN)))))) (seqS (lsI 3 (addI (ciI (iI 678)) (mulI (ciI (iI 3)) (aldI 2 (getR 12 34 (lvR 0)) (ciI (iI 7)))))) (seqS (calS (ckV 12 2) mX12_puts (agC va_rf (lvR 0) (agC Value.int (lvI 3) (agC Value.int (aldI 2 (getR 12 34 (lvR 0)) (ciI (iI 6))) agN)))) (seqS (calS (ckV 12 2) mX12_puts (agC va_rf (lvR 0) (agC Value.int (addI (lvI 3) (ciI (iI 1))) (agC Value.int (lvI 1) agN)))) (seqS (calS (ckV 12 2) mX12_puts (agC va_rf (lvR 0) (agC Value.int (addI (lvI 3) (ciI (iI 2))) (agC Value.int (lvI 2) agN)))) (seqS (calS (ckV 12 2) mX12_puts (agC va_rf (lvR 0) (agC Value.int (ciI (iI 7)) (agC Value.int (addI (aldI 2 (getR 12 34 (lvR 0)) (ciI (iI 7))) (ciI (iI 1))) agN)))) retV))))))
theorem jX12_writesDown : JS MX12_writesDown 0 0 0 108 [] bX12_writesDown :=
  (JS.seq (pc1 := 50) (JS.iff (l := 50) (pc1 := 12) (CJ.eq_f (tgt := 50) (pc1 := 7) (pc2 := 9) (JX.iald (pc1 := 4) (pc2 := 6) (JX.getR (pc1 := 1) (c := 12) (k := 34) (i := 117) (JX.al (k := 0) rfl dX12_writesDown_0) cl12 (by decide) rfl fk12_117 dX12_writesDown_1) (JX.bp (n := 7) kb7 dX12_writesDown_4) dX12_writesDown_6) (JX.bp (n := 40) kb40 dX12_writesDown_7) dX12_writesDown_9 rfl) (JS.seq (pc1 := 42) (JS.sc (JS.seq (pc1 := 16) (JS.is (pc1 := 15) (k := 3) (JX.sp (n := 678) ks678 dX12_writesDown_12) rfl (show 3 < 4 by decide) dX12_writesDown_15) (JS.while (l := 42) (lb := 42) (pc1 := 23) (pc2 := 39) (pc3 := 42) (CJ.lt_f (tgt := 42) (pc1 := 17) (pc2 := 20) (JX.il (k := 3) rfl dX12_writesDown_16) (JX.sp (n := 795) ks795 dX12_writesDown_17) dX12_writesDown_20 rfl) (JS.forb (pc1 := 36) (JS.call (pc1 := 33) (JA.r (JX.al (k := 0) rfl dX12_writesDown_23) (JA.i (JX.il (k := 3) rfl dX12_writesDown_24) (JA.i (JX.iald (pc1 := 29) (pc2 := 32) (JX.getR (pc1 := 26) (c := 12) (k := 34) (i := 117) (JX.al (k := 0) rfl dX12_writesDown_25) cl12 (by decide) rfl fk12_117 dX12_writesDown_26) (JX.iadd (pc1 := 30) (pc2 := 31) (JX.il (k := 3) rfl dX12_writesDown_29) (JX.ic (n := 3) rfl dX12_writesDown_30) dX12_writesDown_31) dX12_writesDown_32) JA.nil))) aX12_puts (RunK.V (i := 450) (c := 12) (n := 2) cl12 rfl (CN nX12_puts (by decide) (by decide)) gw1816 gw1818 gs105 dX12_writesDown_33)) (JS.inc (n := 1) rfl (show 3 < 4 by decide) dX12_writesDown_36)) dX12_writesDown_39 rfl (Or.inl rfl) (Or.inl rfl)))) (JS.call (pc1 := 47) (JA.r (JX.al (k := 0) rfl dX12_writesDown_42) (JA.i (JX.bp (n := 7) kb7 dX12_writesDown_43) (JA.i (JX.bp (n := 39) kb39 dX12_writesDown_45) JA.nil))) aX12_puts (RunK.V (i := 450) (c := 12) (n := 2) cl12 rfl (CN nX12_puts (by decide) (by decide)) gw1816 gw1818 gs105 dX12_writesDown_47))) (Or.inl rfl)) (JS.seq (pc1 := 64) (JS.is (pc1 := 63) (k := 3) (JX.iadd (pc1 := 53) (pc2 := 62) (JX.sp (n := 678) ks678 dX12_writesDown_50) (JX.imul (pc1 := 54) (pc2 := 61) (JX.ic (n := 3) rfl dX12_writesDown_53) (JX.iald (pc1 := 58) (pc2 := 60) (JX.getR (pc1 := 55) (c := 12) (k := 34) (i := 117) (JX.al (k := 0) rfl dX12_writesDown_54) cl12 (by decide) rfl fk12_117 dX12_writesDown_55) (JX.bp (n := 7) kb7 dX12_writesDown_58) dX12_writesDown_60) dX12_writesDown_61) dX12_writesDown_62) rfl (show 3 < 4 by decide) dX12_writesDown_63) (JS.seq (pc1 := 76) (JS.call (pc1 := 73) (JA.r (JX.al (k := 0) rfl dX12_writesDown_64) (JA.i (JX.il (k := 3) rfl dX12_writesDown_65) (JA.i (JX.iald (pc1 := 70) (pc2 := 72) (JX.getR (pc1 := 67) (c := 12) (k := 34) (i := 117) (JX.al (k := 0) rfl dX12_writesDown_66) cl12 (by decide) rfl fk12_117 dX12_writesDown_67) (JX.bp (n := 6) kb6 dX12_writesDown_70) dX12_writesDown_72) JA.nil))) aX12_puts (RunK.V (i := 450) (c := 12) (n := 2) cl12 rfl (CN nX12_puts (by decide) (by decide)) gw1816 gw1818 gs105 dX12_writesDown_73)) (JS.seq (pc1 := 84) (JS.call (pc1 := 81) (JA.r (JX.al (k := 0) rfl dX12_writesDown_76) (JA.i (JX.iadd (pc1 := 78) (pc2 := 79) (JX.il (k := 3) rfl dX12_writesDown_77) (JX.ic (n := 1) rfl dX12_writesDown_78) dX12_writesDown_79) (JA.i (JX.il (k := 1) rfl dX12_writesDown_80) JA.nil))) aX12_puts (RunK.V (i := 450) (c := 12) (n := 2) cl12 rfl (CN nX12_puts (by decide) (by decide)) gw1816 gw1818 gs105 dX12_writesDown_81)) (JS.seq (pc1 := 92) (JS.call (pc1 := 89) (JA.r (JX.al (k := 0) rfl dX12_writesDown_84) (JA.i (JX.iadd (pc1 := 86) (pc2 := 87) (JX.il (k := 3) rfl dX12_writesDown_85) (JX.ic (n := 2) rfl dX12_writesDown_86) dX12_writesDown_87) (JA.i (JX.il (k := 2) rfl dX12_writesDown_88) JA.nil))) aX12_puts (RunK.V (i := 450) (c := 12) (n := 2) cl12 rfl (CN nX12_puts (by decide) (by decide)) gw1816 gw1818 gs105 dX12_writesDown_89)) (JS.seq (pc1 := 107) (JS.call (pc1 := 104) (JA.r (JX.al (k := 0) rfl dX12_writesDown_92) (JA.i (JX.bp (n := 7) kb7 dX12_writesDown_93) (JA.i (JX.iadd (pc1 := 102) (pc2 := 103) (JX.iald (pc1 := 99) (pc2 := 101) (JX.getR (pc1 := 96) (c := 12) (k := 34) (i := 117) (JX.al (k := 0) rfl dX12_writesDown_95) cl12 (by decide) rfl fk12_117 dX12_writesDown_96) (JX.bp (n := 7) kb7 dX12_writesDown_99) dX12_writesDown_101) (JX.ic (n := 1) rfl dX12_writesDown_102) dX12_writesDown_103) JA.nil))) aX12_puts (RunK.V (i := 450) (c := 12) (n := 2) cl12 rfl (CN nX12_puts (by decide) (by decide)) gw1816 gw1818 gs105 dX12_writesDown_104)) (JS.retV dX12_writesDown_107)))))))
def mX12_writesDown : MS := runM 4 none bX12_writesDown
theorem aX12_writesDown : MA yX12_writesDown cX12_writesDown 4 none 2 mX12_writesDown := MA.of (plainFor_of_name (by decide)) jX12_writesDown
theorem eX12_writesDown (a0 : Nat) (a1 : Int32) (a2 : Int32) (h : AH) : mX12_writesDown [.ref a0, .int a1, .int a2] h = (bX12_writesDown [.val (.ref a0), .val (.int a1), .val (.int a2), .unset] h).bind (finM none) := rfl
/-! PieceStoreModel.save -/
theorem dX12_save_0 : decode cX12_save 0 = .ok (.aload_n 0, 1) := by decide +kernel
theorem dX12_save_1 : decode cX12_save 1 = .ok (.invokevirtual 493, 3) := by decide +kernel
theorem dX12_save_4 : decode cX12_save 4 = .ok (.ifCond .ne 9, 3) := by decide +kernel
theorem dX12_save_7 : decode cX12_save 7 = .ok (.aload_n 0, 1) := by decide +kernel
theorem dX12_save_8 : decode cX12_save 8 = .ok (.iconst 3, 1) := by decide +kernel
theorem dX12_save_9 : decode cX12_save 9 = .ok (.invokevirtual 227, 3) := by decide +kernel
theorem dX12_save_12 : decode cX12_save 12 = .ok (.ireturn, 1) := by decide +kernel
theorem dX12_save_13 : decode cX12_save 13 = .ok (.iconst 0, 1) := by decide +kernel
theorem dX12_save_14 : decode cX12_save 14 = .ok (.istore_n 1, 1) := by decide +kernel
theorem dX12_save_15 : decode cX12_save 15 = .ok (.iload_n 1, 1) := by decide +kernel
theorem dX12_save_16 : decode cX12_save 16 = .ok (.bipush 12, 2) := by decide +kernel
theorem dX12_save_18 : decode cX12_save 18 = .ok (.if_icmp .ge 17, 3) := by decide +kernel
theorem dX12_save_21 : decode cX12_save 21 = .ok (.aload_n 0, 1) := by decide +kernel
theorem dX12_save_22 : decode cX12_save 22 = .ok (.iload_n 1, 1) := by decide +kernel
theorem dX12_save_23 : decode cX12_save 23 = .ok (.invokevirtual 432, 3) := by decide +kernel
theorem dX12_save_26 : decode cX12_save 26 = .ok (.ifCond .eq 9, 3) := by decide +kernel
theorem dX12_save_29 : decode cX12_save 29 = .ok (.iinc 1 1, 3) := by decide +kernel
theorem dX12_save_32 : decode cX12_save 32 = .ok (.goto (-17), 3) := by decide +kernel
theorem dX12_save_35 : decode cX12_save 35 = .ok (.aload_n 0, 1) := by decide +kernel
theorem dX12_save_36 : decode cX12_save 36 = .ok (.aload_n 0, 1) := by decide +kernel
theorem dX12_save_37 : decode cX12_save 37 = .ok (.iconst 1, 1) := by decide +kernel
theorem dX12_save_38 : decode cX12_save 38 = .ok (.invokevirtual 414, 3) := by decide +kernel
theorem dX12_save_41 : decode cX12_save 41 = .ok (.invokevirtual 496, 3) := by decide +kernel
theorem dX12_save_44 : decode cX12_save 44 = .ok (.iload_n 1, 1) := by decide +kernel
theorem dX12_save_45 : decode cX12_save 45 = .ok (.bipush 12, 2) := by decide +kernel
theorem dX12_save_47 : decode cX12_save 47 = .ok (.if_icmp .eq 18, 3) := by decide +kernel
theorem dX12_save_50 : decode cX12_save 50 = .ok (.aload_n 0, 1) := by decide +kernel
theorem dX12_save_51 : decode cX12_save 51 = .ok (.invokevirtual 499, 3) := by decide +kernel
theorem dX12_save_54 : decode cX12_save 54 = .ok (.aload_n 0, 1) := by decide +kernel
theorem dX12_save_55 : decode cX12_save 55 = .ok (.getfield 176, 3) := by decide +kernel
theorem dX12_save_58 : decode cX12_save 58 = .ok (.iadd, 1) := by decide +kernel
theorem dX12_save_59 : decode cX12_save 59 = .ok (.sipush 300, 3) := by decide +kernel
theorem dX12_save_62 : decode cX12_save 62 = .ok (.if_icmp .le 9, 3) := by decide +kernel
theorem dX12_save_65 : decode cX12_save 65 = .ok (.aload_n 0, 1) := by decide +kernel
theorem dX12_save_66 : decode cX12_save 66 = .ok (.iconst 3, 1) := by decide +kernel
theorem dX12_save_67 : decode cX12_save 67 = .ok (.invokevirtual 227, 3) := by decide +kernel
theorem dX12_save_70 : decode cX12_save 70 = .ok (.ireturn, 1) := by decide +kernel
theorem dX12_save_71 : decode cX12_save 71 = .ok (.aload_n 0, 1) := by decide +kernel
theorem dX12_save_72 : decode cX12_save 72 = .ok (.invokevirtual 503, 3) := by decide +kernel
theorem dX12_save_75 : decode cX12_save 75 = .ok (.aload_n 0, 1) := by decide +kernel
theorem dX12_save_76 : decode cX12_save 76 = .ok (.getfield 117, 3) := by decide +kernel
theorem dX12_save_79 : decode cX12_save 79 = .ok (.iconst 0, 1) := by decide +kernel
theorem dX12_save_80 : decode cX12_save 80 = .ok (.iaload, 1) := by decide +kernel
theorem dX12_save_81 : decode cX12_save 81 = .ok (.istore_n 2, 1) := by decide +kernel
theorem dX12_save_82 : decode cX12_save 82 = .ok (.iconst 0, 1) := by decide +kernel
theorem dX12_save_83 : decode cX12_save 83 = .ok (.istore_n 3, 1) := by decide +kernel
theorem dX12_save_84 : decode cX12_save 84 = .ok (.iconst 0, 1) := by decide +kernel
theorem dX12_save_85 : decode cX12_save 85 = .ok (.istore 4, 2) := by decide +kernel
theorem dX12_save_87 : decode cX12_save 87 = .ok (.iload 4, 2) := by decide +kernel
theorem dX12_save_89 : decode cX12_save 89 = .ok (.aload_n 0, 1) := by decide +kernel
theorem dX12_save_90 : decode cX12_save 90 = .ok (.getfield 176, 3) := by decide +kernel
theorem dX12_save_93 : decode cX12_save 93 = .ok (.if_icmp .ge 55, 3) := by decide +kernel
theorem dX12_save_96 : decode cX12_save 96 = .ok (.iload_n 3, 1) := by decide +kernel
theorem dX12_save_97 : decode cX12_save 97 = .ok (.aload_n 0, 1) := by decide +kernel
theorem dX12_save_98 : decode cX12_save 98 = .ok (.iload 4, 2) := by decide +kernel
theorem dX12_save_100 : decode cX12_save 100 = .ok (.iload 4, 2) := by decide +kernel
theorem dX12_save_102 : decode cX12_save 102 = .ok (.aload_n 0, 1) := by decide +kernel
theorem dX12_save_103 : decode cX12_save 103 = .ok (.iconst 5, 1) := by decide +kernel
theorem dX12_save_104 : decode cX12_save 104 = .ok (.invokevirtual 414, 3) := by decide +kernel
theorem dX12_save_107 : decode cX12_save 107 = .ok (.iadd, 1) := by decide +kernel
theorem dX12_save_108 : decode cX12_save 108 = .ok (.aload_n 0, 1) := by decide +kernel
theorem dX12_save_109 : decode cX12_save 109 = .ok (.getfield 176, 3) := by decide +kernel
theorem dX12_save_112 : decode cX12_save 112 = .ok (.if_icmp .ge 14, 3) := by decide +kernel
theorem dX12_save_115 : decode cX12_save 115 = .ok (.iload 4, 2) := by decide +kernel
theorem dX12_save_117 : decode cX12_save 117 = .ok (.aload_n 0, 1) := by decide +kernel
theorem dX12_save_118 : decode cX12_save 118 = .ok (.iconst 5, 1) := by decide +kernel
theorem dX12_save_119 : decode cX12_save 119 = .ok (.invokevirtual 414, 3) := by decide +kernel
theorem dX12_save_122 : decode cX12_save 122 = .ok (.iadd, 1) := by decide +kernel
theorem dX12_save_123 : decode cX12_save 123 = .ok (.goto 7, 3) := by decide +kernel
theorem dX12_save_126 : decode cX12_save 126 = .ok (.aload_n 0, 1) := by decide +kernel
theorem dX12_save_127 : decode cX12_save 127 = .ok (.getfield 176, 3) := by decide +kernel
theorem dX12_save_130 : decode cX12_save 130 = .ok (.invokevirtual 506, 3) := by decide +kernel
theorem dX12_save_133 : decode cX12_save 133 = .ok (.iadd, 1) := by decide +kernel
theorem dX12_save_134 : decode cX12_save 134 = .ok (.istore_n 3, 1) := by decide +kernel
theorem dX12_save_135 : decode cX12_save 135 = .ok (.iload 4, 2) := by decide +kernel
theorem dX12_save_137 : decode cX12_save 137 = .ok (.aload_n 0, 1) := by decide +kernel
theorem dX12_save_138 : decode cX12_save 138 = .ok (.iconst 5, 1) := by decide +kernel
theorem dX12_save_139 : decode cX12_save 139 = .ok (.invokevirtual 414, 3) := by decide +kernel
theorem dX12_save_142 : decode cX12_save 142 = .ok (.iadd, 1) := by decide +kernel
theorem dX12_save_143 : decode cX12_save 143 = .ok (.istore 4, 2) := by decide +kernel
theorem dX12_save_145 : decode cX12_save 145 = .ok (.goto (-58), 3) := by decide +kernel
theorem dX12_save_148 : decode cX12_save 148 = .ok (.aload_n 0, 1) := by decide +kernel
theorem dX12_save_149 : decode cX12_save 149 = .ok (.bipush 10, 2) := by decide +kernel
theorem dX12_save_151 : decode cX12_save 151 = .ok (.iconst 4, 1) := by decide +kernel
theorem dX12_save_152 : decode cX12_save 152 = .ok (.iload_n 1, 1) := by decide +kernel
theorem dX12_save_153 : decode cX12_save 153 = .ok (.imul, 1) := by decide +kernel
theorem dX12_save_154 : decode cX12_save 154 = .ok (.iadd, 1) := by decide +kernel
theorem dX12_save_155 : decode cX12_save 155 = .ok (.iconst 1, 1) := by decide +kernel
theorem dX12_save_156 : decode cX12_save 156 = .ok (.invokevirtual 450, 3) := by decide +kernel
theorem dX12_save_159 : decode cX12_save 159 = .ok (.aload_n 0, 1) := by decide +kernel
theorem dX12_save_160 : decode cX12_save 160 = .ok (.bipush 10, 2) := by decide +kernel
theorem dX12_save_162 : decode cX12_save 162 = .ok (.iconst 4, 1) := by decide +kernel
theorem dX12_save_163 : decode cX12_save 163 = .ok (.iload_n 1, 1) := by decide +kernel
theorem dX12_save_164 : decode cX12_save 164 = .ok (.imul, 1) := by decide +kernel
theorem dX12_save_165 : decode cX12_save 165 = .ok (.iadd, 1) := by decide +kernel
theorem dX12_save_166 : decode cX12_save 166 = .ok (.iconst 1, 1) := by decide +kernel
theorem dX12_save_167 : decode cX12_save 167 = .ok (.iadd, 1) := by decide +kernel
theorem dX12_save_168 : decode cX12_save 168 = .ok (.aload_n 0, 1) := by decide +kernel
theorem dX12_save_169 : decode cX12_save 169 = .ok (.getfield 117, 3) := by decide +kernel
theorem dX12_save_172 : decode cX12_save 172 = .ok (.bipush 6, 2) := by decide +kernel
theorem dX12_save_174 : decode cX12_save 174 = .ok (.iaload, 1) := by decide +kernel
theorem dX12_save_175 : decode cX12_save 175 = .ok (.invokevirtual 450, 3) := by decide +kernel
theorem dX12_save_178 : decode cX12_save 178 = .ok (.aload_n 0, 1) := by decide +kernel
theorem dX12_save_179 : decode cX12_save 179 = .ok (.bipush 10, 2) := by decide +kernel
theorem dX12_save_181 : decode cX12_save 181 = .ok (.iconst 4, 1) := by decide +kernel
theorem dX12_save_182 : decode cX12_save 182 = .ok (.iload_n 1, 1) := by decide +kernel
theorem dX12_save_183 : decode cX12_save 183 = .ok (.imul, 1) := by decide +kernel
theorem dX12_save_184 : decode cX12_save 184 = .ok (.iadd, 1) := by decide +kernel
theorem dX12_save_185 : decode cX12_save 185 = .ok (.iconst 2, 1) := by decide +kernel
theorem dX12_save_186 : decode cX12_save 186 = .ok (.iadd, 1) := by decide +kernel
theorem dX12_save_187 : decode cX12_save 187 = .ok (.iload_n 2, 1) := by decide +kernel
theorem dX12_save_188 : decode cX12_save 188 = .ok (.invokevirtual 450, 3) := by decide +kernel
theorem dX12_save_191 : decode cX12_save 191 = .ok (.aload_n 0, 1) := by decide +kernel
theorem dX12_save_192 : decode cX12_save 192 = .ok (.bipush 10, 2) := by decide +kernel
theorem dX12_save_194 : decode cX12_save 194 = .ok (.iconst 4, 1) := by decide +kernel
theorem dX12_save_195 : decode cX12_save 195 = .ok (.iload_n 1, 1) := by decide +kernel
theorem dX12_save_196 : decode cX12_save 196 = .ok (.imul, 1) := by decide +kernel
theorem dX12_save_197 : decode cX12_save 197 = .ok (.iadd, 1) := by decide +kernel
theorem dX12_save_198 : decode cX12_save 198 = .ok (.iconst 3, 1) := by decide +kernel
theorem dX12_save_199 : decode cX12_save 199 = .ok (.iadd, 1) := by decide +kernel
theorem dX12_save_200 : decode cX12_save 200 = .ok (.aload_n 0, 1) := by decide +kernel
theorem dX12_save_201 : decode cX12_save 201 = .ok (.getfield 176, 3) := by decide +kernel
theorem dX12_save_204 : decode cX12_save 204 = .ok (.invokevirtual 450, 3) := by decide +kernel
theorem dX12_save_207 : decode cX12_save 207 = .ok (.aload_n 0, 1) := by decide +kernel
theorem dX12_save_208 : decode cX12_save 208 = .ok (.aload_n 0, 1) := by decide +kernel
theorem dX12_save_209 : decode cX12_save 209 = .ok (.getfield 176, 3) := by decide +kernel
theorem dX12_save_212 : decode cX12_save 212 = .ok (.iload_n 3, 1) := by decide +kernel
theorem dX12_save_213 : decode cX12_save 213 = .ok (.invokevirtual 509, 3) := by decide +kernel
theorem dX12_save_216 : decode cX12_save 216 = .ok (.iload_n 1, 1) := by decide +kernel
theorem dX12_save_217 : decode cX12_save 217 = .ok (.ireturn, 1) := by decide +kernel
abbrev MX12_save : MI := (RX12, cX12_save, 5, 7, false)
def lcX12_save_1 : Ex Bool := (andX (ltI (lvI 1) (ciI (iI 12))) (ne0 (calX decI (ckV 12 1) mX12_isBackup (agC va_rf (lvR 0) (agC Value.int (lvI 1) agN)))))
def lbX12_save_1 : St := (incI 1 (iI 1))
def lcX12_save_2 : Ex Bool := (ltI (lvI 4) (getI 12 53 (lvR 0)))
def lbX12_save_2 : St := (forB (lsI 3 (addI (lvI 3) (calX decI (ckV 12 2) mX12_savesSegment (agC va_rf (lvR 0) (agC Value.int (lvI 4) (agC Value.int (iteX (ltI (addI (lvI 4) (calX decI (ckV 12 1) mX12_by (agC va_rf (lvR 0) (agC Value.int (ciI (iI 5)) agN)))) (getI 12 53 (lvR 0))) (addI (lvI 4) (calX decI (ckV 12 1) mX12_by (agC va_rf (lvR 0) (agC Value.int (ciI (iI 5)) agN)))) (getI 12 53 (lvR 0))) agN)))))) (lsI 4 (addI (lvI 4) (calX decI (ckV 12 1) mX12_by (agC va_rf (lvR 0) (agC Value.int (ciI (iI 5)) agN))))))
def bX12_save : St := (seqS (ifS (notX (ne0 (calX decI (ckV 12 0) mX12_isFile (agC va_rf (lvR 0) agN)))) (retI (calX decI (ckV 12 1) mX12_refuses (agC va_rf (lvR 0) (agC Value.int (ciI (iI 3)) agN))))) (seqS (lsI 1 (ciI (iI 0))) (seqS (whileS lcX12_save_1 lbX12_save_1) (seqS (calS (ckV 12 1) mX12_cutsBy (agC va_rf (lvR 0) (agC Value.int (calX decI (ckV 12 1) mX12_by (agC va_rf (lvR 0) (agC Value.int (ciI (iI 1)) agN))) agN))) (seqS (ifS (orX (eqI (lvI 1) (ciI (iI 12))) (gtI (addI (calX decI (ckV 12 0) mX12_stored (agC va_rf (lvR 0) agN)) (getI 12 53 (lvR 0))) (ciI (iI 300)))) (retI (calX decI (ckV 12 1) mX12_refuses (agC va_rf (lvR 0) (agC Value.int (ciI (iI 3)) agN))))) (seqS (calS (ckV 12 0) mX12_keeps (agC va_rf (lvR 0) agN)) (seqS (lsI 2 (aldI 2 (getR 12 34 (lvR 0)) (ciI (iI 0)))) (seqS (lsI 3 (ciI (iI 0))) (seqS (scS 4 (seqS (lsI 4 (ciI (iI 0))) (whileS lcX12_save_2 lbX12_save_2))) (seqS (calS (ckV 12 2) mX12_puts (agC va_rf (lvR 0) (agC Value.int (addI (ciI (iI 10)) (mulI (ciI (iI 4)) (lvI 1))) (agC Value.int (ciI (iI 1)) agN)))) (seqS (calS (ckV 12 2) mX12_puts (agC va_rf (lvR 0) (agC Value.int (addI (addI (ciI (iI 10)) (mulI (ciI (iI 4)) (lvI 1))) (ciI (iI 1))) (agC Value.int (aldI 2 (getR 12 34 (lvR 0)) (ciI (iI 6))) agN)))) (seqS (calS (ckV 12 2) mX12_puts (agC va_rf (lvR 0) (agC Value.int (addI (addI (ciI (iI 10)) (mulI (ciI (iI 4)) (lvI 1))) (ciI (iI 2))) (agC Value.int (lvI 2) agN)))) (seqS (calS (ckV 12 2) mX12_puts (agC va_rf (lvR 0) (agC Value.int (addI (addI (ciI (iI 10)) (mulI (ciI (iI 4)) (lvI 1))) (ciI (iI 3))) (agC Value.int (getI 12 53 (lvR 0)) agN)))) (seqS (calS (ckV 12 2) mX12_writesDown (agC va_rf (lvR 0) (agC Value.int (getI 12 53 (lvR 0)) (agC Value.int (lvI 3) agN)))) (retI (lvI 1))))))))))))))))
theorem jX12_save : JS MX12_save 0 0 0 218 [] bX12_save :=
  (JS.seq (pc1 := 13) (JS.iff (l := 13) (pc1 := 7) (CJ.not_f (CJ.ne0_t (tgt := 13) (pc1 := 4) (JX.call (pc1 := 1) decI_ok (JA.r (JX.al (k := 0) rfl dX12_save_0) JA.nil) aX12_isFile (RunK.V (i := 493) (c := 12) (n := 0) cl12 rfl (CN nX12_isFile (by decide) (by decide)) gw1706 gw1708 gs81 dX12_save_1) (by decide)) dX12_save_4 rfl)) (JS.retI (pc1 := 12) (JX.call (pc1 := 9) decI_ok (JA.r (JX.al (k := 0) rfl dX12_save_7) (JA.i (JX.ic (n := 3) rfl dX12_save_8) JA.nil)) aX12_refuses (RunK.V (i := 227) (c := 12) (n := 1) cl12 rfl (CN nX12_refuses (by decide) (by decide)) gw1530 gw1532 gs54 dX12_save_9) (by decide)) dX12_save_12) (Or.inl rfl)) (JS.seq (pc1 := 15) (JS.is (pc1 := 14) (k := 1) (JX.ic (n := 0) rfl dX12_save_13) rfl (show 1 < 5 by decide) dX12_save_14) (JS.seq (pc1 := 35) (JS.while (l := 35) (lb := 35) (pc1 := 29) (pc2 := 32) (pc3 := 35) (CJ.and_f (pc1 := 21) (CJ.lt_f (tgt := 35) (pc1 := 16) (pc2 := 18) (JX.il (k := 1) rfl dX12_save_15) (JX.bp (n := 12) kb12 dX12_save_16) dX12_save_18 rfl) (CJ.ne0_f (tgt := 35) (pc1 := 26) (JX.call (pc1 := 23) decI_ok (JA.r (JX.al (k := 0) rfl dX12_save_21) (JA.i (JX.il (k := 1) rfl dX12_save_22) JA.nil)) aX12_isBackup (RunK.V (i := 432) (c := 12) (n := 1) cl12 rfl (CN nX12_isBackup (by decide) (by decide)) gw1710 gw1712 gs82 dX12_save_23) (by decide)) dX12_save_26 rfl)) (JS.inc (n := 1) rfl (show 1 < 5 by decide) dX12_save_29) dX12_save_32 rfl (Or.inl rfl) (Or.inl rfl)) (JS.seq (pc1 := 44) (JS.call (pc1 := 41) (JA.r (JX.al (k := 0) rfl dX12_save_35) (JA.i (JX.call (pc1 := 38) decI_ok (JA.r (JX.al (k := 0) rfl dX12_save_36) (JA.i (JX.ic (n := 1) rfl dX12_save_37) JA.nil)) aX12_by (RunK.V (i := 414) (c := 12) (n := 1) cl12 rfl (CN nX12_by (by decide) (by decide)) gw1714 gw1716 gs83 dX12_save_38) (by decide)) JA.nil)) aX12_cutsBy (RunK.V (i := 496) (c := 12) (n := 1) cl12 rfl (CN nX12_cutsBy (by decide) (by decide)) gw1718 gw1720 gs84 dX12_save_41)) (JS.seq (pc1 := 71) (JS.iff (l := 71) (pc1 := 65) (CJ.or_f (l := 65) (pc1 := 50) (CJ.eq_t (tgt := 65) (pc1 := 45) (pc2 := 47) (JX.il (k := 1) rfl dX12_save_44) (JX.bp (n := 12) kb12 dX12_save_45) dX12_save_47 rfl) (CJ.gt_f (tgt := 71) (pc1 := 59) (pc2 := 62) (JX.iadd (pc1 := 54) (pc2 := 58) (JX.call (pc1 := 51) decI_ok (JA.r (JX.al (k := 0) rfl dX12_save_50) JA.nil) aX12_stored (RunK.V (i := 499) (c := 12) (n := 0) cl12 rfl (CN nX12_stored (by decide) (by decide)) gw1749 gw1751 gs89 dX12_save_51) (by decide)) (JX.getI (pc1 := 55) (c := 12) (k := 53) (i := 176) (JX.al (k := 0) rfl dX12_save_54) cl12 (by decide) rfl fk12_176 dX12_save_55) dX12_save_58) (JX.sp (n := 300) ks300 dX12_save_59) dX12_save_62 rfl) (Or.inl rfl)) (JS.retI (pc1 := 70) (JX.call (pc1 := 67) decI_ok (JA.r (JX.al (k := 0) rfl dX12_save_65) (JA.i (JX.ic (n := 3) rfl dX12_save_66) JA.nil)) aX12_refuses (RunK.V (i := 227) (c := 12) (n := 1) cl12 rfl (CN nX12_refuses (by decide) (by decide)) gw1530 gw1532 gs54 dX12_save_67) (by decide)) dX12_save_70) (Or.inl rfl)) (JS.seq (pc1 := 75) (JS.call (pc1 := 72) (JA.r (JX.al (k := 0) rfl dX12_save_71) JA.nil) aX12_keeps (RunK.V (i := 503) (c := 12) (n := 0) cl12 rfl (CN nX12_keeps (by decide) (by decide)) gw1757 gw1759 gs91 dX12_save_72)) (JS.seq (pc1 := 82) (JS.is (pc1 := 81) (k := 2) (JX.iald (pc1 := 79) (pc2 := 80) (JX.getR (pc1 := 76) (c := 12) (k := 34) (i := 117) (JX.al (k := 0) rfl dX12_save_75) cl12 (by decide) rfl fk12_117 dX12_save_76) (JX.ic (n := 0) rfl dX12_save_79) dX12_save_80) rfl (show 2 < 5 by decide) dX12_save_81) (JS.seq (pc1 := 84) (JS.is (pc1 := 83) (k := 3) (JX.ic (n := 0) rfl dX12_save_82) rfl (show 3 < 5 by decide) dX12_save_83) (JS.seq (pc1 := 148) (JS.sc (JS.seq (pc1 := 87) (JS.is2 (pc1 := 85) (JX.ic (n := 0) rfl dX12_save_84) (show 4 < 5 by decide) dX12_save_85) (JS.while (l := 148) (lb := 148) (pc1 := 96) (pc2 := 145) (pc3 := 148) (CJ.lt_f (tgt := 148) (pc1 := 89) (pc2 := 93) (JX.il2 dX12_save_87) (JX.getI (pc1 := 90) (c := 12) (k := 53) (i := 176) (JX.al (k := 0) rfl dX12_save_89) cl12 (by decide) rfl fk12_176 dX12_save_90) dX12_save_93 rfl) (JS.forb (pc1 := 135) (JS.is (pc1 := 134) (k := 3) (JX.iadd (pc1 := 97) (pc2 := 133) (JX.il (k := 3) rfl dX12_save_96) (JX.call (pc1 := 130) decI_ok (JA.r (JX.al (k := 0) rfl dX12_save_97) (JA.i (JX.il2 dX12_save_98) (JA.i (JX.ite (l := 126) (pc1 := 115) (pc2 := 123) (pc3 := 130) (lend := 130) (CJ.lt_f (tgt := 126) (pc1 := 108) (pc2 := 112) (JX.iadd (pc1 := 102) (pc2 := 107) (JX.il2 dX12_save_100) (JX.call (pc1 := 104) decI_ok (JA.r (JX.al (k := 0) rfl dX12_save_102) (JA.i (JX.ic (n := 5) rfl dX12_save_103) JA.nil)) aX12_by (RunK.V (i := 414) (c := 12) (n := 1) cl12 rfl (CN nX12_by (by decide) (by decide)) gw1714 gw1716 gs83 dX12_save_104) (by decide)) dX12_save_107) (JX.getI (pc1 := 109) (c := 12) (k := 53) (i := 176) (JX.al (k := 0) rfl dX12_save_108) cl12 (by decide) rfl fk12_176 dX12_save_109) dX12_save_112 rfl) (JX.iadd (pc1 := 117) (pc2 := 122) (JX.il2 dX12_save_115) (JX.call (pc1 := 119) decI_ok (JA.r (JX.al (k := 0) rfl dX12_save_117) (JA.i (JX.ic (n := 5) rfl dX12_save_118) JA.nil)) aX12_by (RunK.V (i := 414) (c := 12) (n := 1) cl12 rfl (CN nX12_by (by decide) (by decide)) gw1714 gw1716 gs83 dX12_save_119) (by decide)) dX12_save_122) dX12_save_123 rfl (JX.getI (pc1 := 127) (c := 12) (k := 53) (i := 176) (JX.al (k := 0) rfl dX12_save_126) cl12 (by decide) rfl fk12_176 dX12_save_127) (Or.inl rfl)) JA.nil))) aX12_savesSegment (RunK.V (i := 506) (c := 12) (n := 2) cl12 rfl (CN nX12_savesSegment (by decide) (by decide)) gw1761 gw1763 gs92 dX12_save_130) (by decide)) dX12_save_133) rfl (show 3 < 5 by decide) dX12_save_134) (JS.is2 (pc1 := 143) (JX.iadd (pc1 := 137) (pc2 := 142) (JX.il2 dX12_save_135) (JX.call (pc1 := 139) decI_ok (JA.r (JX.al (k := 0) rfl dX12_save_137) (JA.i (JX.ic (n := 5) rfl dX12_save_138) JA.nil)) aX12_by (RunK.V (i := 414) (c := 12) (n := 1) cl12 rfl (CN nX12_by (by decide) (by decide)) gw1714 gw1716 gs83 dX12_save_139) (by decide)) dX12_save_142) (show 4 < 5 by decide) dX12_save_143)) dX12_save_145 rfl (Or.inl rfl) (Or.inl rfl)))) (JS.seq (pc1 := 159) (JS.call (pc1 := 156) (JA.r (JX.al (k := 0) rfl dX12_save_148) (JA.i (JX.iadd (pc1 := 151) (pc2 := 154) (JX.bp (n := 10) kb10 dX12_save_149) (JX.imul (pc1 := 152) (pc2 := 153) (JX.ic (n := 4) rfl dX12_save_151) (JX.il (k := 1) rfl dX12_save_152) dX12_save_153) dX12_save_154) (JA.i (JX.ic (n := 1) rfl dX12_save_155) JA.nil))) aX12_puts (RunK.V (i := 450) (c := 12) (n := 2) cl12 rfl (CN nX12_puts (by decide) (by decide)) gw1816 gw1818 gs105 dX12_save_156)) (JS.seq (pc1 := 178) (JS.call (pc1 := 175) (JA.r (JX.al (k := 0) rfl dX12_save_159) (JA.i (JX.iadd (pc1 := 166) (pc2 := 167) (JX.iadd (pc1 := 162) (pc2 := 165) (JX.bp (n := 10) kb10 dX12_save_160) (JX.imul (pc1 := 163) (pc2 := 164) (JX.ic (n := 4) rfl dX12_save_162) (JX.il (k := 1) rfl dX12_save_163) dX12_save_164) dX12_save_165) (JX.ic (n := 1) rfl dX12_save_166) dX12_save_167) (JA.i (JX.iald (pc1 := 172) (pc2 := 174) (JX.getR (pc1 := 169) (c := 12) (k := 34) (i := 117) (JX.al (k := 0) rfl dX12_save_168) cl12 (by decide) rfl fk12_117 dX12_save_169) (JX.bp (n := 6) kb6 dX12_save_172) dX12_save_174) JA.nil))) aX12_puts (RunK.V (i := 450) (c := 12) (n := 2) cl12 rfl (CN nX12_puts (by decide) (by decide)) gw1816 gw1818 gs105 dX12_save_175)) (JS.seq (pc1 := 191) (JS.call (pc1 := 188) (JA.r (JX.al (k := 0) rfl dX12_save_178) (JA.i (JX.iadd (pc1 := 185) (pc2 := 186) (JX.iadd (pc1 := 181) (pc2 := 184) (JX.bp (n := 10) kb10 dX12_save_179) (JX.imul (pc1 := 182) (pc2 := 183) (JX.ic (n := 4) rfl dX12_save_181) (JX.il (k := 1) rfl dX12_save_182) dX12_save_183) dX12_save_184) (JX.ic (n := 2) rfl dX12_save_185) dX12_save_186) (JA.i (JX.il (k := 2) rfl dX12_save_187) JA.nil))) aX12_puts (RunK.V (i := 450) (c := 12) (n := 2) cl12 rfl (CN nX12_puts (by decide) (by decide)) gw1816 gw1818 gs105 dX12_save_188)) (JS.seq (pc1 := 207) (JS.call (pc1 := 204) (JA.r (JX.al (k := 0) rfl dX12_save_191) (JA.i (JX.iadd (pc1 := 198) (pc2 := 199) (JX.iadd (pc1 := 194) (pc2 := 197) (JX.bp (n := 10) kb10 dX12_save_192) (JX.imul (pc1 := 195) (pc2 := 196) (JX.ic (n := 4) rfl dX12_save_194) (JX.il (k := 1) rfl dX12_save_195) dX12_save_196) dX12_save_197) (JX.ic (n := 3) rfl dX12_save_198) dX12_save_199) (JA.i (JX.getI (pc1 := 201) (c := 12) (k := 53) (i := 176) (JX.al (k := 0) rfl dX12_save_200) cl12 (by decide) rfl fk12_176 dX12_save_201) JA.nil))) aX12_puts (RunK.V (i := 450) (c := 12) (n := 2) cl12 rfl (CN nX12_puts (by decide) (by decide)) gw1816 gw1818 gs105 dX12_save_204)) (JS.seq (pc1 := 216) (JS.call (pc1 := 213) (JA.r (JX.al (k := 0) rfl dX12_save_207) (JA.i (JX.getI (pc1 := 209) (c := 12) (k := 53) (i := 176) (JX.al (k := 0) rfl dX12_save_208) cl12 (by decide) rfl fk12_176 dX12_save_209) (JA.i (JX.il (k := 3) rfl dX12_save_212) JA.nil))) aX12_writesDown (RunK.V (i := 509) (c := 12) (n := 2) cl12 rfl (CN nX12_writesDown (by decide) (by decide)) gw1836 gw1838 gs110 dX12_save_213)) (JS.retI (pc1 := 217) (JX.il (k := 1) rfl dX12_save_216) dX12_save_217)))))))))))))))
def mX12_save : MS := runM 5 (some (.int)) bX12_save
theorem aX12_save : MA yX12_save cX12_save 5 (some (.int)) 7 mX12_save := MA.of (plainFor_of_name (by decide)) jX12_save
theorem eX12_save (a0 : Nat) (h : AH) : mX12_save [.ref a0] h = (bX12_save [.val (.ref a0), .unset, .unset, .unset, .unset] h).bind (finM (some (.int))) := rfl
