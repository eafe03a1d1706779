/-! ===== by program: mk20.py: methods ===== -/
/-! Desk.<init> -/
theorem dX2_init_0 : decode cX2_init 0 = .ok (.aload_n 0, 1) := by decide +kernel
theorem dX2_init_1 : decode cX2_init 1 = .ok (.invokespecial 3, 3) := by decide +kernel
theorem dX2_init_4 : decode cX2_init 4 = .ok (.aload_n 0, 1) := by decide +kernel
theorem dX2_init_5 : decode cX2_init 5 = .ok (.new 9, 3) := by decide +kernel
theorem dX2_init_8 : decode cX2_init 8 = .ok (.dup, 1) := by decide +kernel
theorem dX2_init_9 : decode cX2_init 9 = .ok (.invokespecial 11, 3) := by decide +kernel
theorem dX2_init_12 : decode cX2_init 12 = .ok (.putfield 12, 3) := by decide +kernel
theorem dX2_init_15 : decode cX2_init 15 = .ok (.aload_n 0, 1) := by decide +kernel
theorem dX2_init_16 : decode cX2_init 16 = .ok (.new 9, 3) := by decide +kernel
theorem dX2_init_19 : decode cX2_init 19 = .ok (.dup, 1) := by decide +kernel
theorem dX2_init_20 : decode cX2_init 20 = .ok (.invokespecial 11, 3) := by decide +kernel
theorem dX2_init_23 : decode cX2_init 23 = .ok (.putfield 18, 3) := by decide +kernel
theorem dX2_init_26 : decode cX2_init 26 = .ok (.aload_n 0, 1) := by decide +kernel
theorem dX2_init_27 : decode cX2_init 27 = .ok (.new 9, 3) := by decide +kernel
theorem dX2_init_30 : decode cX2_init 30 = .ok (.dup, 1) := by decide +kernel
theorem dX2_init_31 : decode cX2_init 31 = .ok (.invokespecial 11, 3) := by decide +kernel
theorem dX2_init_34 : decode cX2_init 34 = .ok (.putfield 21, 3) := by decide +kernel
theorem dX2_init_37 : decode cX2_init 37 = .ok (.return_, 1) := by decide +kernel
abbrev MX2_init : MI := (RX2, cX2_init, 1, 2, true)
def bX2_init : St := (seqS (oiS (lvR 0)) (seqS (putR 2 0 (lvR 0) (newR (16 * 2 ^ 10))) (seqS (putR 2 1 (lvR 0) (newR (16 * 2 ^ 10))) (seqS (putR 2 2 (lvR 0) (newR (16 * 2 ^ 10))) retV))))
theorem jX2_init : JS MX2_init 0 0 0 38 [] bX2_init :=
  (JS.seq (pc1 := 4) (JS.oi (pc1 := 1) (i := 3) (JX.al (k := 0) rfl dX2_init_0) gw516 rowO.2.1 rowO.2.2 (by decide) dX2_init_1) (JS.seq (pc1 := 15) (JS.pR (pc1 := 5) (pc2 := 12) (c := 2) (k := 0) (i := 12) (JX.al (k := 0) rfl dX2_init_4) (JX.newR (J := 10) (i := 9) (i2 := 11) (by decide) rowW rowO.1 rowO.2.1 rowO.2.2 gw517 gw30 gw2 nw518 gw32 gw33 (by decide) dX2_init_5 dX2_init_8 dX2_init_9 (by decide)) cl2 (by decide) (Or.inl ⟨_, rfl⟩) fk2_12 (Or.inr ⟨rfl, rfl, rfl, gw519⟩) dX2_init_12) (JS.seq (pc1 := 26) (JS.pR (pc1 := 16) (pc2 := 23) (c := 2) (k := 1) (i := 18) (JX.al (k := 0) rfl dX2_init_15) (JX.newR (J := 10) (i := 9) (i2 := 11) (by decide) rowW rowO.1 rowO.2.1 rowO.2.2 gw517 gw30 gw2 nw518 gw32 gw33 (by decide) dX2_init_16 dX2_init_19 dX2_init_20 (by decide)) cl2 (by decide) (Or.inl ⟨_, rfl⟩) fk2_18 (Or.inr ⟨rfl, rfl, rfl, gw520⟩) dX2_init_23) (JS.seq (pc1 := 37) (JS.pR (pc1 := 27) (pc2 := 34) (c := 2) (k := 2) (i := 21) (JX.al (k := 0) rfl dX2_init_26) (JX.newR (J := 10) (i := 9) (i2 := 11) (by decide) rowW rowO.1 rowO.2.1 rowO.2.2 gw517 gw30 gw2 nw518 gw32 gw33 (by decide) dX2_init_27 dX2_init_30 dX2_init_31 (by decide)) cl2 (by decide) (Or.inl ⟨_, rfl⟩) fk2_21 (Or.inr ⟨rfl, rfl, rfl, gw521⟩) dX2_init_34) (JS.retV dX2_init_37)))))
def mX2_init : MS := runM 1 none bX2_init
theorem aX2_init : MA yX2_init cX2_init 1 none 2 mX2_init := MA.of (plainFor_of_name (by decide)) jX2_init
theorem eX2_init (a0 : Nat) (h : AH) : mX2_init [.ref a0] h = (bX2_init [.val (.ref a0)] h).bind (finM none) := rfl
/-! Code.<init> -/
theorem dX0_init_0 : decode cX0_init 0 = .ok (.aload_n 0, 1) := by decide +kernel
theorem dX0_init_1 : decode cX0_init 1 = .ok (.invokespecial 3, 3) := by decide +kernel
theorem dX0_init_4 : decode cX0_init 4 = .ok (.aload_n 0, 1) := by decide +kernel
theorem dX0_init_5 : decode cX0_init 5 = .ok (.new 9, 3) := by decide +kernel
theorem dX0_init_8 : decode cX0_init 8 = .ok (.dup, 1) := by decide +kernel
theorem dX0_init_9 : decode cX0_init 9 = .ok (.invokespecial 11, 3) := by decide +kernel
theorem dX0_init_12 : decode cX0_init 12 = .ok (.putfield 12, 3) := by decide +kernel
theorem dX0_init_15 : decode cX0_init 15 = .ok (.aload_n 0, 1) := by decide +kernel
theorem dX0_init_16 : decode cX0_init 16 = .ok (.new 9, 3) := by decide +kernel
theorem dX0_init_19 : decode cX0_init 19 = .ok (.dup, 1) := by decide +kernel
theorem dX0_init_20 : decode cX0_init 20 = .ok (.invokespecial 11, 3) := by decide +kernel
theorem dX0_init_23 : decode cX0_init 23 = .ok (.putfield 18, 3) := by decide +kernel
theorem dX0_init_26 : decode cX0_init 26 = .ok (.return_, 1) := by decide +kernel
abbrev MX0_init : MI := (RX0, cX0_init, 1, 2, true)
def bX0_init : St := (seqS (oiS (lvR 0)) (seqS (putR 0 0 (lvR 0) (newR (16 * 2 ^ 10))) (seqS (putR 0 1 (lvR 0) (newR (16 * 2 ^ 10))) retV)))
theorem jX0_init : JS MX0_init 0 0 0 27 [] bX0_init :=
  (JS.seq (pc1 := 4) (JS.oi (pc1 := 1) (i := 3) (JX.al (k := 0) rfl dX0_init_0) gw56 rowO.2.1 rowO.2.2 (by decide) dX0_init_1) (JS.seq (pc1 := 15) (JS.pR (pc1 := 5) (pc2 := 12) (c := 0) (k := 0) (i := 12) (JX.al (k := 0) rfl dX0_init_4) (JX.newR (J := 10) (i := 9) (i2 := 11) (by decide) rowW rowO.1 rowO.2.1 rowO.2.2 gw57 gw30 gw2 nw58 gw32 gw33 (by decide) dX0_init_5 dX0_init_8 dX0_init_9 (by decide)) cl0 (by decide) (Or.inl ⟨_, rfl⟩) fk0_12 (Or.inr ⟨rfl, rfl, rfl, gw59⟩) dX0_init_12) (JS.seq (pc1 := 26) (JS.pR (pc1 := 16) (pc2 := 23) (c := 0) (k := 1) (i := 18) (JX.al (k := 0) rfl dX0_init_15) (JX.newR (J := 10) (i := 9) (i2 := 11) (by decide) rowW rowO.1 rowO.2.1 rowO.2.2 gw57 gw30 gw2 nw58 gw32 gw33 (by decide) dX0_init_16 dX0_init_19 dX0_init_20 (by decide)) cl0 (by decide) (Or.inl ⟨_, rfl⟩) fk0_18 (Or.inr ⟨rfl, rfl, rfl, gw62⟩) dX0_init_23) (JS.retV dX0_init_26))))
def mX0_init : MS := runM 1 none bX0_init
theorem aX0_init : MA yX0_init cX0_init 1 none 2 mX0_init := MA.of (plainFor_of_name (by decide)) jX0_init
theorem eX0_init (a0 : Nat) (h : AH) : mX0_init [.ref a0] h = (bX0_init [.val (.ref a0)] h).bind (finM none) := rfl
/-! Reader.packedWord -/
theorem dX4_packedWord_0 : decode cX4_packedWord 0 = .ok (.iconst 0, 1) := by decide +kernel
theorem dX4_packedWord_1 : decode cX4_packedWord 1 = .ok (.istore_n 1, 1) := by decide +kernel
theorem dX4_packedWord_2 : decode cX4_packedWord 2 = .ok (.iconst 0, 1) := by decide +kernel
theorem dX4_packedWord_3 : decode cX4_packedWord 3 = .ok (.istore_n 2, 1) := by decide +kernel
theorem dX4_packedWord_4 : decode cX4_packedWord 4 = .ok (.iload_n 2, 1) := by decide +kernel
theorem dX4_packedWord_5 : decode cX4_packedWord 5 = .ok (.bipush 6, 2) := by decide +kernel
theorem dX4_packedWord_7 : decode cX4_packedWord 7 = .ok (.if_icmp .ge 53, 3) := by decide +kernel
theorem dX4_packedWord_10 : decode cX4_packedWord 10 = .ok (.bipush 6, 2) := by decide +kernel
theorem dX4_packedWord_12 : decode cX4_packedWord 12 = .ok (.iload_n 0, 1) := by decide +kernel
theorem dX4_packedWord_13 : decode cX4_packedWord 13 = .ok (.imul, 1) := by decide +kernel
theorem dX4_packedWord_14 : decode cX4_packedWord 14 = .ok (.iload_n 2, 1) := by decide +kernel
theorem dX4_packedWord_15 : decode cX4_packedWord 15 = .ok (.iadd, 1) := by decide +kernel
theorem dX4_packedWord_16 : decode cX4_packedWord 16 = .ok (.istore_n 3, 1) := by decide +kernel
theorem dX4_packedWord_17 : decode cX4_packedWord 17 = .ok (.iload_n 3, 1) := by decide +kernel
theorem dX4_packedWord_18 : decode cX4_packedWord 18 = .ok (.ldc 67, 2) := by decide +kernel
theorem dX4_packedWord_20 : decode cX4_packedWord 20 = .ok (.invokevirtual 69, 3) := by decide +kernel
theorem dX4_packedWord_23 : decode cX4_packedWord 23 = .ok (.if_icmp .ge 31, 3) := by decide +kernel
theorem dX4_packedWord_26 : decode cX4_packedWord 26 = .ok (.ldc 67, 2) := by decide +kernel
theorem dX4_packedWord_28 : decode cX4_packedWord 28 = .ok (.iload_n 3, 1) := by decide +kernel
theorem dX4_packedWord_29 : decode cX4_packedWord 29 = .ok (.invokevirtual 75, 3) := by decide +kernel
theorem dX4_packedWord_32 : decode cX4_packedWord 32 = .ok (.bipush 32, 2) := by decide +kernel
theorem dX4_packedWord_34 : decode cX4_packedWord 34 = .ok (.if_icmp .eq 20, 3) := by decide +kernel
theorem dX4_packedWord_37 : decode cX4_packedWord 37 = .ok (.iload_n 1, 1) := by decide +kernel
theorem dX4_packedWord_38 : decode cX4_packedWord 38 = .ok (.bipush 32, 2) := by decide +kernel
theorem dX4_packedWord_40 : decode cX4_packedWord 40 = .ok (.imul, 1) := by decide +kernel
theorem dX4_packedWord_41 : decode cX4_packedWord 41 = .ok (.ldc 67, 2) := by decide +kernel
theorem dX4_packedWord_43 : decode cX4_packedWord 43 = .ok (.iload_n 3, 1) := by decide +kernel
theorem dX4_packedWord_44 : decode cX4_packedWord 44 = .ok (.invokevirtual 75, 3) := by decide +kernel
theorem dX4_packedWord_47 : decode cX4_packedWord 47 = .ok (.iadd, 1) := by decide +kernel
theorem dX4_packedWord_48 : decode cX4_packedWord 48 = .ok (.bipush 97, 2) := by decide +kernel
theorem dX4_packedWord_50 : decode cX4_packedWord 50 = .ok (.isub, 1) := by decide +kernel
theorem dX4_packedWord_51 : decode cX4_packedWord 51 = .ok (.iconst 1, 1) := by decide +kernel
theorem dX4_packedWord_52 : decode cX4_packedWord 52 = .ok (.iadd, 1) := by decide +kernel
theorem dX4_packedWord_53 : decode cX4_packedWord 53 = .ok (.istore_n 1, 1) := by decide +kernel
theorem dX4_packedWord_54 : decode cX4_packedWord 54 = .ok (.iinc 2 1, 3) := by decide +kernel
theorem dX4_packedWord_57 : decode cX4_packedWord 57 = .ok (.goto (-53), 3) := by decide +kernel
theorem dX4_packedWord_60 : decode cX4_packedWord 60 = .ok (.iload_n 1, 1) := by decide +kernel
theorem dX4_packedWord_61 : decode cX4_packedWord 61 = .ok (.ireturn, 1) := by decide +kernel
abbrev MX4_packedWord : MI := (RX4, cX4_packedWord, 4, 8, false)
def lcX4_packedWord_1 : Ex Bool := (ltI (lvI 2) (ciI (iI 6)))
def lbX4_packedWord_1 : St := (forB (scS 3 (seqS (lsI 3 (addI (mulI (ciI (iI 6)) (lvI 0)) (lvI 2))) (ifS (andX (ltI (lvI 3) (ciI (iI 174))) (neI (wchI (lvI 3)) (ciI (iI 32)))) (lsI 1 (addI (subI (addI (mulI (lvI 1) (ciI (iI 32))) (wchI (lvI 3))) (ciI (iI 97))) (ciI (iI 1))))))) (incI 2 (iI 1)))
def bX4_packedWord : St := (seqS (lsI 1 (ciI (iI 0))) (seqS (scS 2 (seqS (lsI 2 (ciI (iI 0))) (whileS lcX4_packedWord_1 lbX4_packedWord_1))) (retI (lvI 1))))
theorem jX4_packedWord : JS MX4_packedWord 0 0 0 62 [] bX4_packedWord :=
  (JS.seq (pc1 := 2) (JS.is (pc1 := 1) (k := 1) (JX.ic (n := 0) rfl dX4_packedWord_0) rfl (show 1 < 4 by decide) dX4_packedWord_1) (JS.seq (pc1 := 60) (JS.sc (JS.seq (pc1 := 4) (JS.is (pc1 := 3) (k := 2) (JX.ic (n := 0) rfl dX4_packedWord_2) rfl (show 2 < 4 by decide) dX4_packedWord_3) (JS.while (l := 60) (lb := 60) (pc1 := 10) (pc2 := 57) (pc3 := 60) (CJ.lt_f (tgt := 60) (pc1 := 5) (pc2 := 7) (JX.il (k := 2) rfl dX4_packedWord_4) (JX.bp (n := 6) kb6 dX4_packedWord_5) dX4_packedWord_7 rfl) (JS.forb (pc1 := 54) (JS.sc (JS.seq (pc1 := 17) (JS.is (pc1 := 16) (k := 3) (JX.iadd (pc1 := 14) (pc2 := 15) (JX.imul (pc1 := 12) (pc2 := 13) (JX.bp (n := 6) kb6 dX4_packedWord_10) (JX.il (k := 0) rfl dX4_packedWord_12) dX4_packedWord_13) (JX.il (k := 2) rfl dX4_packedWord_14) dX4_packedWord_15) rfl (show 3 < 4 by decide) dX4_packedWord_16) (JS.iff (l := 54) (pc1 := 37) (CJ.and_f (pc1 := 26) (CJ.lt_f (tgt := 54) (pc1 := 18) (pc2 := 23) (JX.il (k := 3) rfl dX4_packedWord_17) (JX.wlen (by decide) (by decide) (by decide) dX4_packedWord_18 dX4_packedWord_20) dX4_packedWord_23 rfl) (CJ.ne_f (tgt := 54) (pc1 := 32) (pc2 := 34) (JX.wch (k := 3) rfl (by decide) (by decide) (by decide) dX4_packedWord_26 dX4_packedWord_28 dX4_packedWord_29) (JX.bp (n := 32) kb32 dX4_packedWord_32) dX4_packedWord_34 rfl)) (JS.is (pc1 := 53) (k := 1) (JX.iadd (pc1 := 51) (pc2 := 52) (JX.isub (pc1 := 48) (pc2 := 50) (JX.iadd (pc1 := 41) (pc2 := 47) (JX.imul (pc1 := 38) (pc2 := 40) (JX.il (k := 1) rfl dX4_packedWord_37) (JX.bp (n := 32) kb32 dX4_packedWord_38) dX4_packedWord_40) (JX.wch (k := 3) rfl (by decide) (by decide) (by decide) dX4_packedWord_41 dX4_packedWord_43 dX4_packedWord_44) dX4_packedWord_47) (JX.bp (n := 97) kb97 dX4_packedWord_48) dX4_packedWord_50) (JX.ic (n := 1) rfl dX4_packedWord_51) dX4_packedWord_52) rfl (show 1 < 4 by decide) dX4_packedWord_53) (Or.inl rfl)))) (JS.inc (n := 1) rfl (show 2 < 4 by decide) dX4_packedWord_54)) dX4_packedWord_57 rfl (Or.inl rfl) (Or.inl rfl)))) (JS.retI (pc1 := 61) (JX.il (k := 1) rfl dX4_packedWord_60) dX4_packedWord_61)))
def mX4_packedWord : MS := runM 4 (some (.int)) bX4_packedWord
theorem aX4_packedWord : MA yX4_packedWord cX4_packedWord 4 (some (.int)) 8 mX4_packedWord := MA.of (plainFor_of_name (by decide)) jX4_packedWord
theorem eX4_packedWord (a0 : Int32) (h : AH) : mX4_packedWord [.int a0] h = (bX4_packedWord [.val (.int a0), .unset, .unset, .unset] h).bind (finM (some (.int))) := rfl
def mX5_add : MS := runM 2 none addB
theorem eX5_add (a0 : Nat) (a1 : Int32) (h : AH) : mX5_add [.ref a0, .int a1] h = (addB [.val (.ref a0), .val (.int a1)] h).bind (finM none) := rfl
theorem aX5_add : MA yX5_add cX5_add 2 none 2 mX5_add := MA.of (plainFor_of_name (by decide)) (add_J (dep := 2) (by decide) rowW)
/-! Reader.<init> -/
theorem dX4_init_0 : decode cX4_init 0 = .ok (.aload_n 0, 1) := by decide +kernel
theorem dX4_init_1 : decode cX4_init 1 = .ok (.invokespecial 3, 3) := by decide +kernel
theorem dX4_init_4 : decode cX4_init 4 = .ok (.aload_n 0, 1) := by decide +kernel
theorem dX4_init_5 : decode cX4_init 5 = .ok (.new 9, 3) := by decide +kernel
theorem dX4_init_8 : decode cX4_init 8 = .ok (.dup, 1) := by decide +kernel
theorem dX4_init_9 : decode cX4_init 9 = .ok (.invokespecial 11, 3) := by decide +kernel
theorem dX4_init_12 : decode cX4_init 12 = .ok (.putfield 12, 3) := by decide +kernel
theorem dX4_init_15 : decode cX4_init 15 = .ok (.aload_n 0, 1) := by decide +kernel
theorem dX4_init_16 : decode cX4_init 16 = .ok (.new 9, 3) := by decide +kernel
theorem dX4_init_19 : decode cX4_init 19 = .ok (.dup, 1) := by decide +kernel
theorem dX4_init_20 : decode cX4_init 20 = .ok (.invokespecial 11, 3) := by decide +kernel
theorem dX4_init_23 : decode cX4_init 23 = .ok (.putfield 18, 3) := by decide +kernel
theorem dX4_init_26 : decode cX4_init 26 = .ok (.aload_n 0, 1) := by decide +kernel
theorem dX4_init_27 : decode cX4_init 27 = .ok (.new 9, 3) := by decide +kernel
theorem dX4_init_30 : decode cX4_init 30 = .ok (.dup, 1) := by decide +kernel
theorem dX4_init_31 : decode cX4_init 31 = .ok (.invokespecial 11, 3) := by decide +kernel
theorem dX4_init_34 : decode cX4_init 34 = .ok (.putfield 21, 3) := by decide +kernel
theorem dX4_init_37 : decode cX4_init 37 = .ok (.aload_n 0, 1) := by decide +kernel
theorem dX4_init_38 : decode cX4_init 38 = .ok (.new 9, 3) := by decide +kernel
theorem dX4_init_41 : decode cX4_init 41 = .ok (.dup, 1) := by decide +kernel
theorem dX4_init_42 : decode cX4_init 42 = .ok (.invokespecial 11, 3) := by decide +kernel
theorem dX4_init_45 : decode cX4_init 45 = .ok (.putfield 24, 3) := by decide +kernel
theorem dX4_init_48 : decode cX4_init 48 = .ok (.aload_n 0, 1) := by decide +kernel
theorem dX4_init_49 : decode cX4_init 49 = .ok (.iconst 0, 1) := by decide +kernel
theorem dX4_init_50 : decode cX4_init 50 = .ok (.putfield 27, 3) := by decide +kernel
theorem dX4_init_53 : decode cX4_init 53 = .ok (.aload_n 0, 1) := by decide +kernel
theorem dX4_init_54 : decode cX4_init 54 = .ok (.iconst 0, 1) := by decide +kernel
theorem dX4_init_55 : decode cX4_init 55 = .ok (.putfield 31, 3) := by decide +kernel
theorem dX4_init_58 : decode cX4_init 58 = .ok (.aload_n 0, 1) := by decide +kernel
theorem dX4_init_59 : decode cX4_init 59 = .ok (.iconst 0, 1) := by decide +kernel
theorem dX4_init_60 : decode cX4_init 60 = .ok (.putfield 34, 3) := by decide +kernel
theorem dX4_init_63 : decode cX4_init 63 = .ok (.aload_n 0, 1) := by decide +kernel
theorem dX4_init_64 : decode cX4_init 64 = .ok (.iconst 0, 1) := by decide +kernel
theorem dX4_init_65 : decode cX4_init 65 = .ok (.putfield 37, 3) := by decide +kernel
theorem dX4_init_68 : decode cX4_init 68 = .ok (.aload_n 0, 1) := by decide +kernel
theorem dX4_init_69 : decode cX4_init 69 = .ok (.iconst 0, 1) := by decide +kernel
theorem dX4_init_70 : decode cX4_init 70 = .ok (.putfield 40, 3) := by decide +kernel
theorem dX4_init_73 : decode cX4_init 73 = .ok (.aload_n 0, 1) := by decide +kernel
theorem dX4_init_74 : decode cX4_init 74 = .ok (.bipush 10, 2) := by decide +kernel
theorem dX4_init_76 : decode cX4_init 76 = .ok (.putfield 43, 3) := by decide +kernel
theorem dX4_init_79 : decode cX4_init 79 = .ok (.aload_n 0, 1) := by decide +kernel
theorem dX4_init_80 : decode cX4_init 80 = .ok (.new 46, 3) := by decide +kernel
theorem dX4_init_83 : decode cX4_init 83 = .ok (.dup, 1) := by decide +kernel
theorem dX4_init_84 : decode cX4_init 84 = .ok (.invokespecial 48, 3) := by decide +kernel
theorem dX4_init_87 : decode cX4_init 87 = .ok (.putfield 49, 3) := by decide +kernel
theorem dX4_init_90 : decode cX4_init 90 = .ok (.aload_n 0, 1) := by decide +kernel
theorem dX4_init_91 : decode cX4_init 91 = .ok (.iconst 0, 1) := by decide +kernel
theorem dX4_init_92 : decode cX4_init 92 = .ok (.putfield 53, 3) := by decide +kernel
theorem dX4_init_95 : decode cX4_init 95 = .ok (.aload_n 0, 1) := by decide +kernel
theorem dX4_init_96 : decode cX4_init 96 = .ok (.iconst (-1), 1) := by decide +kernel
theorem dX4_init_97 : decode cX4_init 97 = .ok (.putfield 56, 3) := by decide +kernel
theorem dX4_init_100 : decode cX4_init 100 = .ok (.iconst 0, 1) := by decide +kernel
theorem dX4_init_101 : decode cX4_init 101 = .ok (.istore_n 1, 1) := by decide +kernel
theorem dX4_init_102 : decode cX4_init 102 = .ok (.iload_n 1, 1) := by decide +kernel
theorem dX4_init_103 : decode cX4_init 103 = .ok (.bipush 29, 2) := by decide +kernel
theorem dX4_init_105 : decode cX4_init 105 = .ok (.if_icmp .ge 20, 3) := by decide +kernel
theorem dX4_init_108 : decode cX4_init 108 = .ok (.aload_n 0, 1) := by decide +kernel
theorem dX4_init_109 : decode cX4_init 109 = .ok (.getfield 12, 3) := by decide +kernel
theorem dX4_init_112 : decode cX4_init 112 = .ok (.iload_n 1, 1) := by decide +kernel
theorem dX4_init_113 : decode cX4_init 113 = .ok (.invokestatic 59, 3) := by decide +kernel
theorem dX4_init_116 : decode cX4_init 116 = .ok (.invokevirtual 63, 3) := by decide +kernel
theorem dX4_init_119 : decode cX4_init 119 = .ok (.iinc 1 1, 3) := by decide +kernel
theorem dX4_init_122 : decode cX4_init 122 = .ok (.goto (-20), 3) := by decide +kernel
theorem dX4_init_125 : decode cX4_init 125 = .ok (.return_, 1) := by decide +kernel
abbrev MX4_init : MI := (RX4, cX4_init, 2, 9, true)
def lcX4_init_1 : Ex Bool := (ltI (lvI 1) (ciI (iI 29)))
def lbX4_init_1 : St := (forB (calS (ckV 5 1) mX5_add (agC va_rf (getR 4 0 (lvR 0)) (agC Value.int (calX decI (ckS 1) mX4_packedWord (agC Value.int (lvI 1) agN)) agN))) (incI 1 (iI 1)))
def bX4_init : St := (seqS (oiS (lvR 0)) (seqS (putR 4 0 (lvR 0) (newR (16 * 2 ^ 10))) (seqS (putR 4 1 (lvR 0) (newR (16 * 2 ^ 10))) (seqS (putR 4 2 (lvR 0) (newR (16 * 2 ^ 10))) (seqS (putR 4 3 (lvR 0) (newR (16 * 2 ^ 10))) (seqS (putI 4 4 (lvR 0) (ciI (iI 0))) (seqS (putI 4 5 (lvR 0) (ciI (iI 0))) (seqS (putI 4 6 (lvR 0) (ciI (iI 0))) (seqS (putI 4 7 (lvR 0) (ciI (iI 0))) (seqS (putI 4 8 (lvR 0) (ciI (iI 0))) (seqS (putI 4 9 (lvR 0) (ciI (iI 10))) (seqS (putR 4 10 (lvR 0) (newO 0 mX0_init)) (seqS (putI 4 11 (lvR 0) (ciI (iI 0))) (seqS (putI 4 12 (lvR 0) (ciI (iI (-1)))) (seqS (scS 1 (seqS (lsI 1 (ciI (iI 0))) (whileS lcX4_init_1 lbX4_init_1))) retV)))))))))))))))
theorem jX4_init : JS MX4_init 0 0 0 126 [] bX4_init :=
  (JS.seq (pc1 := 4) (JS.oi (pc1 := 1) (i := 3) (JX.al (k := 0) rfl dX4_init_0) gw48 rowO.2.1 rowO.2.2 (by decide) dX4_init_1) (JS.seq (pc1 := 15) (JS.pR (pc1 := 5) (pc2 := 12) (c := 4) (k := 0) (i := 12) (JX.al (k := 0) rfl dX4_init_4) (JX.newR (J := 10) (i := 9) (i2 := 11) (by decide) rowW rowO.1 rowO.2.1 rowO.2.2 gw49 gw30 gw2 nw50 gw32 gw33 (by decide) dX4_init_5 dX4_init_8 dX4_init_9 (by decide)) cl4 (by decide) (Or.inl ⟨_, rfl⟩) fk4_12 (Or.inr ⟨rfl, rfl, rfl, gw140⟩) dX4_init_12) (JS.seq (pc1 := 26) (JS.pR (pc1 := 16) (pc2 := 23) (c := 4) (k := 1) (i := 18) (JX.al (k := 0) rfl dX4_init_15) (JX.newR (J := 10) (i := 9) (i2 := 11) (by decide) rowW rowO.1 rowO.2.1 rowO.2.2 gw49 gw30 gw2 nw50 gw32 gw33 (by decide) dX4_init_16 dX4_init_19 dX4_init_20 (by decide)) cl4 (by decide) (Or.inl ⟨_, rfl⟩) fk4_18 (Or.inr ⟨rfl, rfl, rfl, gw141⟩) dX4_init_23) (JS.seq (pc1 := 37) (JS.pR (pc1 := 27) (pc2 := 34) (c := 4) (k := 2) (i := 21) (JX.al (k := 0) rfl dX4_init_26) (JX.newR (J := 10) (i := 9) (i2 := 11) (by decide) rowW rowO.1 rowO.2.1 rowO.2.2 gw49 gw30 gw2 nw50 gw32 gw33 (by decide) dX4_init_27 dX4_init_30 dX4_init_31 (by decide)) cl4 (by decide) (Or.inl ⟨_, rfl⟩) fk4_21 (Or.inr ⟨rfl, rfl, rfl, gw142⟩) dX4_init_34) (JS.seq (pc1 := 48) (JS.pR (pc1 := 38) (pc2 := 45) (c := 4) (k := 3) (i := 24) (JX.al (k := 0) rfl dX4_init_37) (JX.newR (J := 10) (i := 9) (i2 := 11) (by decide) rowW rowO.1 rowO.2.1 rowO.2.2 gw49 gw30 gw2 nw50 gw32 gw33 (by decide) dX4_init_38 dX4_init_41 dX4_init_42 (by decide)) cl4 (by decide) (Or.inl ⟨_, rfl⟩) fk4_24 (Or.inr ⟨rfl, rfl, rfl, gw143⟩) dX4_init_45) (JS.seq (pc1 := 53) (JS.pI (pc1 := 49) (pc2 := 50) (c := 4) (k := 4) (i := 27) (JX.al (k := 0) rfl dX4_init_48) (JX.ic (n := 0) rfl dX4_init_49) cl4 (by decide) rfl fk4_27 (Or.inl rfl) dX4_init_50) (JS.seq (pc1 := 58) (JS.pI (pc1 := 54) (pc2 := 55) (c := 4) (k := 5) (i := 31) (JX.al (k := 0) rfl dX4_init_53) (JX.ic (n := 0) rfl dX4_init_54) cl4 (by decide) rfl fk4_31 (Or.inl rfl) dX4_init_55) (JS.seq (pc1 := 63) (JS.pI (pc1 := 59) (pc2 := 60) (c := 4) (k := 6) (i := 34) (JX.al (k := 0) rfl dX4_init_58) (JX.ic (n := 0) rfl dX4_init_59) cl4 (by decide) rfl fk4_34 (Or.inl rfl) dX4_init_60) (JS.seq (pc1 := 68) (JS.pI (pc1 := 64) (pc2 := 65) (c := 4) (k := 7) (i := 37) (JX.al (k := 0) rfl dX4_init_63) (JX.ic (n := 0) rfl dX4_init_64) cl4 (by decide) rfl fk4_37 (Or.inl rfl) dX4_init_65) (JS.seq (pc1 := 73) (JS.pI (pc1 := 69) (pc2 := 70) (c := 4) (k := 8) (i := 40) (JX.al (k := 0) rfl dX4_init_68) (JX.ic (n := 0) rfl dX4_init_69) cl4 (by decide) rfl fk4_40 (Or.inl rfl) dX4_init_70) (JS.seq (pc1 := 79) (JS.pI (pc1 := 74) (pc2 := 76) (c := 4) (k := 9) (i := 43) (JX.al (k := 0) rfl dX4_init_73) (JX.bp (n := 10) kb10 dX4_init_74) cl4 (by decide) rfl fk4_43 (Or.inl rfl) dX4_init_76) (JS.seq (pc1 := 90) (JS.pR (pc1 := 80) (pc2 := 87) (c := 4) (k := 10) (i := 49) (JX.al (k := 0) rfl dX4_init_79) (JX.new (i := 46) (c := 0) cl0 fok0 gw51 gw52 gw4 dX4_init_80 dX4_init_83 aX0_init (RunK.I (i := 48) (n := 0) rfl (CN nX0_init (by decide) (by decide)) (Or.inr nw53) gw54 dX4_init_84) (by decide)) cl4 (by decide) (Or.inl ⟨_, rfl⟩) fk4_49 (Or.inl rfl) dX4_init_87) (JS.seq (pc1 := 95) (JS.pI (pc1 := 91) (pc2 := 92) (c := 4) (k := 11) (i := 53) (JX.al (k := 0) rfl dX4_init_90) (JX.ic (n := 0) rfl dX4_init_91) cl4 (by decide) rfl fk4_53 (Or.inl rfl) dX4_init_92) (JS.seq (pc1 := 100) (JS.pI (pc1 := 96) (pc2 := 97) (c := 4) (k := 12) (i := 56) (JX.al (k := 0) rfl dX4_init_95) (JX.ic (n := (-1)) rfl dX4_init_96) cl4 (by decide) rfl fk4_56 (Or.inl rfl) dX4_init_97) (JS.seq (pc1 := 125) (JS.sc (JS.seq (pc1 := 102) (JS.is (pc1 := 101) (k := 1) (JX.ic (n := 0) rfl dX4_init_100) rfl (show 1 < 2 by decide) dX4_init_101) (JS.while (l := 125) (lb := 125) (pc1 := 108) (pc2 := 122) (pc3 := 125) (CJ.lt_f (tgt := 125) (pc1 := 103) (pc2 := 105) (JX.il (k := 1) rfl dX4_init_102) (JX.bp (n := 29) kb29 dX4_init_103) dX4_init_105 rfl) (JS.forb (pc1 := 119) (JS.call (pc1 := 116) (JA.r (JX.getR (pc1 := 109) (c := 4) (k := 0) (i := 12) (JX.al (k := 0) rfl dX4_init_108) cl4 (by decide) rfl fk4_12 dX4_init_109) (JA.i (JX.call (pc1 := 113) decI_ok (JA.i (JX.il (k := 1) rfl dX4_init_112) JA.nil) aX4_packedWord (RunK.S (i := 59) (n := 1) (CN nX4_packedWord (by decide) (by decide)) gw68 gw69 dX4_init_113) (by decide)) JA.nil)) aX5_add (RunK.V (i := 63) (c := 5) (n := 1) cl5 rfl (CN nX5_add (by decide) (by decide)) gw120 gw121 gw122 dX4_init_116)) (JS.inc (n := 1) rfl (show 1 < 2 by decide) dX4_init_119)) dX4_init_122 rfl (Or.inl rfl) (Or.inl rfl)))) (JS.retV dX4_init_125))))))))))))))))
def mX4_init : MS := runM 2 none bX4_init
theorem aX4_init : MA yX4_init cX4_init 2 none 9 mX4_init := MA.of (plainFor_of_name (by decide)) jX4_init
theorem eX4_init (a0 : Nat) (h : AH) : mX4_init [.ref a0] h = (bX4_init [.val (.ref a0), .unset] h).bind (finM none) := rfl
/-! Row.fill -/
theorem dX5_fill_0 : decode cX5_fill 0 = .ok (.aload_n 0, 1) := by decide +kernel
theorem dX5_fill_1 : decode cX5_fill 1 = .ok (.iconst 0, 1) := by decide +kernel
theorem dX5_fill_2 : decode cX5_fill 2 = .ok (.putfield 15, 3) := by decide +kernel
theorem dX5_fill_5 : decode cX5_fill 5 = .ok (.iconst 0, 1) := by decide +kernel
theorem dX5_fill_6 : decode cX5_fill 6 = .ok (.istore_n 3, 1) := by decide +kernel
theorem dX5_fill_7 : decode cX5_fill 7 = .ok (.iload_n 3, 1) := by decide +kernel
theorem dX5_fill_8 : decode cX5_fill 8 = .ok (.iload_n 1, 1) := by decide +kernel
theorem dX5_fill_9 : decode cX5_fill 9 = .ok (.if_icmp .ge 14, 3) := by decide +kernel
theorem dX5_fill_12 : decode cX5_fill 12 = .ok (.aload_n 0, 1) := by decide +kernel
theorem dX5_fill_13 : decode cX5_fill 13 = .ok (.iload_n 2, 1) := by decide +kernel
theorem dX5_fill_14 : decode cX5_fill 14 = .ok (.invokevirtual 33, 3) := by decide +kernel
theorem dX5_fill_17 : decode cX5_fill 17 = .ok (.iinc 3 1, 3) := by decide +kernel
theorem dX5_fill_20 : decode cX5_fill 20 = .ok (.goto (-13), 3) := by decide +kernel
theorem dX5_fill_23 : decode cX5_fill 23 = .ok (.return_, 1) := by decide +kernel
abbrev MX5_fill : MI := (RX5, cX5_fill, 4, 3, false)
def lcX5_fill_1 : Ex Bool := (ltI (lvI 3) (lvI 1))
def lbX5_fill_1 : St := (forB (calS (ckV 5 1) mX5_add (agC va_rf (lvR 0) (agC Value.int (lvI 2) agN))) (incI 3 (iI 1)))
def bX5_fill : St := (seqS (rszS (lvR 0) (ciI (iI 0))) (seqS (scS 3 (seqS (lsI 3 (ciI (iI 0))) (whileS lcX5_fill_1 lbX5_fill_1))) retV))
theorem jX5_fill : JS MX5_fill 0 0 0 24 [] bX5_fill :=
  (JS.seq (pc1 := 5) (JS.rsz (pc1 := 1) (pc2 := 2) (i := 15) (JX.al (k := 0) rfl dX5_fill_0) (JX.ic (n := 0) rfl dX5_fill_1) cl5 gw36 dX5_fill_2) (JS.seq (pc1 := 23) (JS.sc (JS.seq (pc1 := 7) (JS.is (pc1 := 6) (k := 3) (JX.ic (n := 0) rfl dX5_fill_5) rfl (show 3 < 4 by decide) dX5_fill_6) (JS.while (l := 23) (lb := 23) (pc1 := 12) (pc2 := 20) (pc3 := 23) (CJ.lt_f (tgt := 23) (pc1 := 8) (pc2 := 9) (JX.il (k := 3) rfl dX5_fill_7) (JX.il (k := 1) rfl dX5_fill_8) dX5_fill_9 rfl) (JS.forb (pc1 := 17) (JS.call (pc1 := 14) (JA.r (JX.al (k := 0) rfl dX5_fill_12) (JA.i (JX.il (k := 2) rfl dX5_fill_13) JA.nil)) aX5_add (RunK.V (i := 33) (c := 5) (n := 1) cl5 rfl (CN nX5_add (by decide) (by decide)) gw203 gw121 gw122 dX5_fill_14)) (JS.inc (n := 1) rfl (show 3 < 4 by decide) dX5_fill_17)) dX5_fill_20 rfl (Or.inl rfl) (Or.inl rfl)))) (JS.retV dX5_fill_23)))
def mX5_fill : MS := runM 4 none bX5_fill
theorem aX5_fill : MA yX5_fill cX5_fill 4 none 3 mX5_fill := MA.of (plainFor_of_name (by decide)) jX5_fill
theorem eX5_fill (a0 : Nat) (a1 : Int32) (a2 : Int32) (h : AH) : mX5_fill [.ref a0, .int a1, .int a2] h = (bX5_fill [.val (.ref a0), .val (.int a1), .val (.int a2), .unset] h).bind (finM none) := rfl
/-! Row.clear -/
theorem dX5_clear_0 : decode cX5_clear 0 = .ok (.aload_n 0, 1) := by decide +kernel
theorem dX5_clear_1 : decode cX5_clear 1 = .ok (.iconst 0, 1) := by decide +kernel
theorem dX5_clear_2 : decode cX5_clear 2 = .ok (.putfield 15, 3) := by decide +kernel
theorem dX5_clear_5 : decode cX5_clear 5 = .ok (.return_, 1) := by decide +kernel
abbrev MX5_clear : MI := (RX5, cX5_clear, 1, 1, false)
def bX5_clear : St := (seqS (rszS (lvR 0) (ciI (iI 0))) retV)
theorem jX5_clear : JS MX5_clear 0 0 0 6 [] bX5_clear :=
  (JS.seq (pc1 := 5) (JS.rsz (pc1 := 1) (pc2 := 2) (i := 15) (JX.al (k := 0) rfl dX5_clear_0) (JX.ic (n := 0) rfl dX5_clear_1) cl5 gw36 dX5_clear_2) (JS.retV dX5_clear_5))
def mX5_clear : MS := runM 1 none bX5_clear
theorem aX5_clear : MA yX5_clear cX5_clear 1 none 1 mX5_clear := MA.of (plainFor_of_name (by decide)) jX5_clear
theorem eX5_clear (a0 : Nat) (h : AH) : mX5_clear [.ref a0] h = (bX5_clear [.val (.ref a0)] h).bind (finM none) := rfl
/-! Rules.begin -/
theorem dX6_begin_0 : decode cX6_begin 0 = .ok (.aload_n 0, 1) := by decide +kernel
theorem dX6_begin_1 : decode cX6_begin 1 = .ok (.getfield 12, 3) := by decide +kernel
theorem dX6_begin_4 : decode cX6_begin 4 = .ok (.invokevirtual 45, 3) := by decide +kernel
theorem dX6_begin_7 : decode cX6_begin 7 = .ok (.iconst 0, 1) := by decide +kernel
theorem dX6_begin_8 : decode cX6_begin 8 = .ok (.istore_n 1, 1) := by decide +kernel
theorem dX6_begin_9 : decode cX6_begin 9 = .ok (.iload_n 1, 1) := by decide +kernel
theorem dX6_begin_10 : decode cX6_begin 10 = .ok (.getstatic 48, 3) := by decide +kernel
theorem dX6_begin_13 : decode cX6_begin 13 = .ok (.arraylength, 1) := by decide +kernel
theorem dX6_begin_14 : decode cX6_begin 14 = .ok (.if_icmp .ge 21, 3) := by decide +kernel
theorem dX6_begin_17 : decode cX6_begin 17 = .ok (.aload_n 0, 1) := by decide +kernel
theorem dX6_begin_18 : decode cX6_begin 18 = .ok (.getfield 12, 3) := by decide +kernel
theorem dX6_begin_21 : decode cX6_begin 21 = .ok (.getstatic 48, 3) := by decide +kernel
theorem dX6_begin_24 : decode cX6_begin 24 = .ok (.iload_n 1, 1) := by decide +kernel
theorem dX6_begin_25 : decode cX6_begin 25 = .ok (.iaload, 1) := by decide +kernel
theorem dX6_begin_26 : decode cX6_begin 26 = .ok (.invokevirtual 52, 3) := by decide +kernel
theorem dX6_begin_29 : decode cX6_begin 29 = .ok (.iinc 1 1, 3) := by decide +kernel
theorem dX6_begin_32 : decode cX6_begin 32 = .ok (.goto (-23), 3) := by decide +kernel
theorem dX6_begin_35 : decode cX6_begin 35 = .ok (.aload_n 0, 1) := by decide +kernel
theorem dX6_begin_36 : decode cX6_begin 36 = .ok (.getfield 21, 3) := by decide +kernel
theorem dX6_begin_39 : decode cX6_begin 39 = .ok (.getfield 56, 3) := by decide +kernel
theorem dX6_begin_42 : decode cX6_begin 42 = .ok (.invokevirtual 45, 3) := by decide +kernel
theorem dX6_begin_45 : decode cX6_begin 45 = .ok (.aload_n 0, 1) := by decide +kernel
theorem dX6_begin_46 : decode cX6_begin 46 = .ok (.getfield 25, 3) := by decide +kernel
theorem dX6_begin_49 : decode cX6_begin 49 = .ok (.getfield 56, 3) := by decide +kernel
theorem dX6_begin_52 : decode cX6_begin 52 = .ok (.invokevirtual 45, 3) := by decide +kernel
theorem dX6_begin_55 : decode cX6_begin 55 = .ok (.aload_n 0, 1) := by decide +kernel
theorem dX6_begin_56 : decode cX6_begin 56 = .ok (.getfield 28, 3) := by decide +kernel
theorem dX6_begin_59 : decode cX6_begin 59 = .ok (.getfield 56, 3) := by decide +kernel
theorem dX6_begin_62 : decode cX6_begin 62 = .ok (.invokevirtual 45, 3) := by decide +kernel
theorem dX6_begin_65 : decode cX6_begin 65 = .ok (.aload_n 0, 1) := by decide +kernel
theorem dX6_begin_66 : decode cX6_begin 66 = .ok (.iconst 0, 1) := by decide +kernel
theorem dX6_begin_67 : decode cX6_begin 67 = .ok (.putfield 34, 3) := by decide +kernel
theorem dX6_begin_70 : decode cX6_begin 70 = .ok (.return_, 1) := by decide +kernel
abbrev MX6_begin : MI := (RX6, cX6_begin, 2, 3, false)
def lcX6_begin_1 : Ex Bool := (ltI (lvI 1) (ciI (iI 10)))
def lbX6_begin_1 : St := (forB (calS (ckV 5 1) mX5_add (agC va_rf (getR 6 0 (lvR 0)) (agC Value.int (stI nWto (lvI 1)) agN))) (incI 1 (iI 1)))
def bX6_begin : St := (seqS (calS (ckV 5 0) mX5_clear (agC va_rf (getR 6 0 (lvR 0)) agN)) (seqS (scS 1 (seqS (lsI 1 (ciI (iI 0))) (whileS lcX6_begin_1 lbX6_begin_1))) (seqS (calS (ckV 5 0) mX5_clear (agC va_rf (getR 0 0 (getR 6 1 (lvR 0))) agN)) (seqS (calS (ckV 5 0) mX5_clear (agC va_rf (getR 0 0 (getR 6 2 (lvR 0))) agN)) (seqS (calS (ckV 5 0) mX5_clear (agC va_rf (getR 0 0 (getR 6 3 (lvR 0))) agN)) (seqS (putI 6 5 (lvR 0) (ciI (iI 0))) retV))))))
theorem jX6_begin : JS MX6_begin 0 0 0 71 [] bX6_begin :=
  (JS.seq (pc1 := 7) (JS.call (pc1 := 4) (JA.r (JX.getR (pc1 := 1) (c := 6) (k := 0) (i := 12) (JX.al (k := 0) rfl dX6_begin_0) cl6 (by decide) rfl fk6_12 dX6_begin_1) JA.nil) aX5_clear (RunK.V (i := 45) (c := 5) (n := 0) cl5 rfl (CN nX5_clear (by decide) (by decide)) gw208 gw209 gw210 dX6_begin_4)) (JS.seq (pc1 := 35) (JS.sc (JS.seq (pc1 := 9) (JS.is (pc1 := 8) (k := 1) (JX.ic (n := 0) rfl dX6_begin_7) rfl (show 1 < 2 by decide) dX6_begin_8) (JS.while (l := 35) (lb := 35) (pc1 := 17) (pc2 := 32) (pc3 := 35) (CJ.lt_f (tgt := 35) (pc1 := 10) (pc2 := 14) (JX.il (k := 1) rfl dX6_begin_9) (JX.stl st2' (i := 48) nw212 dX6_begin_10 dX6_begin_13) dX6_begin_14 rfl) (JS.forb (pc1 := 29) (JS.call (pc1 := 26) (JA.r (JX.getR (pc1 := 18) (c := 6) (k := 0) (i := 12) (JX.al (k := 0) rfl dX6_begin_17) cl6 (by decide) rfl fk6_12 dX6_begin_18) (JA.i (JX.sta st2' (i := 48) (k := 1) rfl nw212 dX6_begin_21 dX6_begin_24 dX6_begin_25) JA.nil)) aX5_add (RunK.V (i := 52) (c := 5) (n := 1) cl5 rfl (CN nX5_add (by decide) (by decide)) gw214 gw121 gw122 dX6_begin_26)) (JS.inc (n := 1) rfl (show 1 < 2 by decide) dX6_begin_29)) dX6_begin_32 rfl (Or.inl rfl) (Or.inl rfl)))) (JS.seq (pc1 := 45) (JS.call (pc1 := 42) (JA.r (JX.getR (pc1 := 39) (c := 0) (k := 0) (i := 56) (JX.getR (pc1 := 36) (c := 6) (k := 1) (i := 21) (JX.al (k := 0) rfl dX6_begin_35) cl6 (by decide) rfl fk6_21 dX6_begin_36) cl0 (by decide) rfl fk6_56 dX6_begin_39) JA.nil) aX5_clear (RunK.V (i := 45) (c := 5) (n := 0) cl5 rfl (CN nX5_clear (by decide) (by decide)) gw208 gw209 gw210 dX6_begin_42)) (JS.seq (pc1 := 55) (JS.call (pc1 := 52) (JA.r (JX.getR (pc1 := 49) (c := 0) (k := 0) (i := 56) (JX.getR (pc1 := 46) (c := 6) (k := 2) (i := 25) (JX.al (k := 0) rfl dX6_begin_45) cl6 (by decide) rfl fk6_25 dX6_begin_46) cl0 (by decide) rfl fk6_56 dX6_begin_49) JA.nil) aX5_clear (RunK.V (i := 45) (c := 5) (n := 0) cl5 rfl (CN nX5_clear (by decide) (by decide)) gw208 gw209 gw210 dX6_begin_52)) (JS.seq (pc1 := 65) (JS.call (pc1 := 62) (JA.r (JX.getR (pc1 := 59) (c := 0) (k := 0) (i := 56) (JX.getR (pc1 := 56) (c := 6) (k := 3) (i := 28) (JX.al (k := 0) rfl dX6_begin_55) cl6 (by decide) rfl fk6_28 dX6_begin_56) cl0 (by decide) rfl fk6_56 dX6_begin_59) JA.nil) aX5_clear (RunK.V (i := 45) (c := 5) (n := 0) cl5 rfl (CN nX5_clear (by decide) (by decide)) gw208 gw209 gw210 dX6_begin_62)) (JS.seq (pc1 := 70) (JS.pI (pc1 := 66) (pc2 := 67) (c := 6) (k := 5) (i := 34) (JX.al (k := 0) rfl dX6_begin_65) (JX.ic (n := 0) rfl dX6_begin_66) cl6 (by decide) rfl fk6_34 (Or.inl rfl) dX6_begin_67) (JS.retV dX6_begin_70)))))))
def mX6_begin : MS := runM 2 none bX6_begin
theorem aX6_begin : MA yX6_begin cX6_begin 2 none 3 mX6_begin := MA.of (plainFor_of_name (by decide)) jX6_begin
theorem eX6_begin (a0 : Nat) (h : AH) : mX6_begin [.ref a0] h = (bX6_begin [.val (.ref a0), .unset] h).bind (finM none) := rfl
/-! Rules.<init> -/
theorem dX6_init_0 : decode cX6_init 0 = .ok (.aload_n 0, 1) := by decide +kernel
theorem dX6_init_1 : decode cX6_init 1 = .ok (.invokespecial 3, 3) := by decide +kernel
theorem dX6_init_4 : decode cX6_init 4 = .ok (.aload_n 0, 1) := by decide +kernel
theorem dX6_init_5 : decode cX6_init 5 = .ok (.new 9, 3) := by decide +kernel
theorem dX6_init_8 : decode cX6_init 8 = .ok (.dup, 1) := by decide +kernel
theorem dX6_init_9 : decode cX6_init 9 = .ok (.invokespecial 11, 3) := by decide +kernel
theorem dX6_init_12 : decode cX6_init 12 = .ok (.putfield 12, 3) := by decide +kernel
theorem dX6_init_15 : decode cX6_init 15 = .ok (.aload_n 0, 1) := by decide +kernel
theorem dX6_init_16 : decode cX6_init 16 = .ok (.new 18, 3) := by decide +kernel
theorem dX6_init_19 : decode cX6_init 19 = .ok (.dup, 1) := by decide +kernel
theorem dX6_init_20 : decode cX6_init 20 = .ok (.invokespecial 20, 3) := by decide +kernel
theorem dX6_init_23 : decode cX6_init 23 = .ok (.putfield 21, 3) := by decide +kernel
theorem dX6_init_26 : decode cX6_init 26 = .ok (.aload_n 0, 1) := by decide +kernel
theorem dX6_init_27 : decode cX6_init 27 = .ok (.new 18, 3) := by decide +kernel
theorem dX6_init_30 : decode cX6_init 30 = .ok (.dup, 1) := by decide +kernel
theorem dX6_init_31 : decode cX6_init 31 = .ok (.invokespecial 20, 3) := by decide +kernel
theorem dX6_init_34 : decode cX6_init 34 = .ok (.putfield 25, 3) := by decide +kernel
theorem dX6_init_37 : decode cX6_init 37 = .ok (.aload_n 0, 1) := by decide +kernel
theorem dX6_init_38 : decode cX6_init 38 = .ok (.new 18, 3) := by decide +kernel
theorem dX6_init_41 : decode cX6_init 41 = .ok (.dup, 1) := by decide +kernel
theorem dX6_init_42 : decode cX6_init 42 = .ok (.invokespecial 20, 3) := by decide +kernel
theorem dX6_init_45 : decode cX6_init 45 = .ok (.putfield 28, 3) := by decide +kernel
theorem dX6_init_48 : decode cX6_init 48 = .ok (.aload_n 0, 1) := by decide +kernel
theorem dX6_init_49 : decode cX6_init 49 = .ok (.new 9, 3) := by decide +kernel
theorem dX6_init_52 : decode cX6_init 52 = .ok (.dup, 1) := by decide +kernel
theorem dX6_init_53 : decode cX6_init 53 = .ok (.invokespecial 11, 3) := by decide +kernel
theorem dX6_init_56 : decode cX6_init 56 = .ok (.putfield 31, 3) := by decide +kernel
theorem dX6_init_59 : decode cX6_init 59 = .ok (.aload_n 0, 1) := by decide +kernel
theorem dX6_init_60 : decode cX6_init 60 = .ok (.iconst 0, 1) := by decide +kernel
theorem dX6_init_61 : decode cX6_init 61 = .ok (.putfield 34, 3) := by decide +kernel
theorem dX6_init_64 : decode cX6_init 64 = .ok (.aload_n 0, 1) := by decide +kernel
theorem dX6_init_65 : decode cX6_init 65 = .ok (.getfield 31, 3) := by decide +kernel
theorem dX6_init_68 : decode cX6_init 68 = .ok (.bipush 29, 2) := by decide +kernel
theorem dX6_init_70 : decode cX6_init 70 = .ok (.iconst 0, 1) := by decide +kernel
theorem dX6_init_71 : decode cX6_init 71 = .ok (.invokevirtual 38, 3) := by decide +kernel
theorem dX6_init_74 : decode cX6_init 74 = .ok (.aload_n 0, 1) := by decide +kernel
theorem dX6_init_75 : decode cX6_init 75 = .ok (.invokevirtual 42, 3) := by decide +kernel
theorem dX6_init_78 : decode cX6_init 78 = .ok (.return_, 1) := by decide +kernel
abbrev MX6_init : MI := (RX6, cX6_init, 1, 4, true)
def bX6_init : St := (seqS (oiS (lvR 0)) (seqS (putR 6 0 (lvR 0) (newR (16 * 2 ^ 10))) (seqS (putR 6 1 (lvR 0) (newO 0 mX0_init)) (seqS (putR 6 2 (lvR 0) (newO 0 mX0_init)) (seqS (putR 6 3 (lvR 0) (newO 0 mX0_init)) (seqS (putR 6 4 (lvR 0) (newR (16 * 2 ^ 10))) (seqS (putI 6 5 (lvR 0) (ciI (iI 0))) (seqS (calS (ckV 5 2) mX5_fill (agC va_rf (getR 6 4 (lvR 0)) (agC Value.int (ciI (iI 29)) (agC Value.int (ciI (iI 0)) agN)))) (seqS (calS (ckV 6 0) mX6_begin (agC va_rf (lvR 0) agN)) retV)))))))))
theorem jX6_init : JS MX6_init 0 0 0 79 [] bX6_init :=
  (JS.seq (pc1 := 4) (JS.oi (pc1 := 1) (i := 3) (JX.al (k := 0) rfl dX6_init_0) gw194 rowO.2.1 rowO.2.2 (by decide) dX6_init_1) (JS.seq (pc1 := 15) (JS.pR (pc1 := 5) (pc2 := 12) (c := 6) (k := 0) (i := 12) (JX.al (k := 0) rfl dX6_init_4) (JX.newR (J := 10) (i := 9) (i2 := 11) (by decide) rowW rowO.1 rowO.2.1 rowO.2.2 gw195 gw30 gw2 nw196 gw32 gw33 (by decide) dX6_init_5 dX6_init_8 dX6_init_9 (by decide)) cl6 (by decide) (Or.inl ⟨_, rfl⟩) fk6_12 (Or.inr ⟨rfl, rfl, rfl, gw215⟩) dX6_init_12) (JS.seq (pc1 := 26) (JS.pR (pc1 := 16) (pc2 := 23) (c := 6) (k := 1) (i := 21) (JX.al (k := 0) rfl dX6_init_15) (JX.new (i := 18) (c := 0) cl0 fok0 gw197 gw52 gw4 dX6_init_16 dX6_init_19 aX0_init (RunK.I (i := 20) (n := 0) rfl (CN nX0_init (by decide) (by decide)) (Or.inr nw198) gw54 dX6_init_20) (by decide)) cl6 (by decide) (Or.inl ⟨_, rfl⟩) fk6_21 (Or.inr ⟨rfl, rfl, rfl, gw217⟩) dX6_init_23) (JS.seq (pc1 := 37) (JS.pR (pc1 := 27) (pc2 := 34) (c := 6) (k := 2) (i := 25) (JX.al (k := 0) rfl dX6_init_26) (JX.new (i := 18) (c := 0) cl0 fok0 gw197 gw52 gw4 dX6_init_27 dX6_init_30 aX0_init (RunK.I (i := 20) (n := 0) rfl (CN nX0_init (by decide) (by decide)) (Or.inr nw198) gw54 dX6_init_31) (by decide)) cl6 (by decide) (Or.inl ⟨_, rfl⟩) fk6_25 (Or.inr ⟨rfl, rfl, rfl, gw218⟩) dX6_init_34) (JS.seq (pc1 := 48) (JS.pR (pc1 := 38) (pc2 := 45) (c := 6) (k := 3) (i := 28) (JX.al (k := 0) rfl dX6_init_37) (JX.new (i := 18) (c := 0) cl0 fok0 gw197 gw52 gw4 dX6_init_38 dX6_init_41 aX0_init (RunK.I (i := 20) (n := 0) rfl (CN nX0_init (by decide) (by decide)) (Or.inr nw198) gw54 dX6_init_42) (by decide)) cl6 (by decide) (Or.inl ⟨_, rfl⟩) fk6_28 (Or.inr ⟨rfl, rfl, rfl, gw219⟩) dX6_init_45) (JS.seq (pc1 := 59) (JS.pR (pc1 := 49) (pc2 := 56) (c := 6) (k := 4) (i := 31) (JX.al (k := 0) rfl dX6_init_48) (JX.newR (J := 10) (i := 9) (i2 := 11) (by decide) rowW rowO.1 rowO.2.1 rowO.2.2 gw195 gw30 gw2 nw196 gw32 gw33 (by decide) dX6_init_49 dX6_init_52 dX6_init_53 (by decide)) cl6 (by decide) (Or.inl ⟨_, rfl⟩) fk6_31 (Or.inr ⟨rfl, rfl, rfl, gw220⟩) dX6_init_56) (JS.seq (pc1 := 64) (JS.pI (pc1 := 60) (pc2 := 61) (c := 6) (k := 5) (i := 34) (JX.al (k := 0) rfl dX6_init_59) (JX.ic (n := 0) rfl dX6_init_60) cl6 (by decide) rfl fk6_34 (Or.inl rfl) dX6_init_61) (JS.seq (pc1 := 74) (JS.call (pc1 := 71) (JA.r (JX.getR (pc1 := 65) (c := 6) (k := 4) (i := 31) (JX.al (k := 0) rfl dX6_init_64) cl6 (by decide) rfl fk6_31 dX6_init_65) (JA.i (JX.bp (n := 29) kb29 dX6_init_68) (JA.i (JX.ic (n := 0) rfl dX6_init_70) JA.nil))) aX5_fill (RunK.V (i := 38) (c := 5) (n := 2) cl5 rfl (CN nX5_fill (by decide) (by decide)) gw199 gw200 gw201 dX6_init_71)) (JS.seq (pc1 := 78) (JS.call (pc1 := 75) (JA.r (JX.al (k := 0) rfl dX6_init_74) JA.nil) aX6_begin (RunK.V (i := 42) (c := 6) (n := 0) cl6 rfl (CN nX6_begin (by decide) (by decide)) gw204 gw205 gw206 dX6_init_75)) (JS.retV dX6_init_78))))))))))
def mX6_init : MS := runM 1 none bX6_init
theorem aX6_init : MA yX6_init cX6_init 1 none 4 mX6_init := MA.of (plainFor_of_name (by decide)) jX6_init
theorem eX6_init (a0 : Nat) (h : AH) : mX6_init [.ref a0] h = (bX6_init [.val (.ref a0)] h).bind (finM none) := rfl
/-! Scope.<init> -/
theorem dX8_init_0 : decode cX8_init 0 = .ok (.aload_n 0, 1) := by decide +kernel
theorem dX8_init_1 : decode cX8_init 1 = .ok (.invokespecial 3, 3) := by decide +kernel
theorem dX8_init_4 : decode cX8_init 4 = .ok (.aload_n 0, 1) := by decide +kernel
theorem dX8_init_5 : decode cX8_init 5 = .ok (.new 9, 3) := by decide +kernel
theorem dX8_init_8 : decode cX8_init 8 = .ok (.dup, 1) := by decide +kernel
theorem dX8_init_9 : decode cX8_init 9 = .ok (.invokespecial 11, 3) := by decide +kernel
theorem dX8_init_12 : decode cX8_init 12 = .ok (.putfield 12, 3) := by decide +kernel
theorem dX8_init_15 : decode cX8_init 15 = .ok (.aload_n 0, 1) := by decide +kernel
theorem dX8_init_16 : decode cX8_init 16 = .ok (.new 9, 3) := by decide +kernel
theorem dX8_init_19 : decode cX8_init 19 = .ok (.dup, 1) := by decide +kernel
theorem dX8_init_20 : decode cX8_init 20 = .ok (.invokespecial 11, 3) := by decide +kernel
theorem dX8_init_23 : decode cX8_init 23 = .ok (.putfield 18, 3) := by decide +kernel
theorem dX8_init_26 : decode cX8_init 26 = .ok (.aload_n 0, 1) := by decide +kernel
theorem dX8_init_27 : decode cX8_init 27 = .ok (.new 9, 3) := by decide +kernel
theorem dX8_init_30 : decode cX8_init 30 = .ok (.dup, 1) := by decide +kernel
theorem dX8_init_31 : decode cX8_init 31 = .ok (.invokespecial 11, 3) := by decide +kernel
theorem dX8_init_34 : decode cX8_init 34 = .ok (.putfield 21, 3) := by decide +kernel
theorem dX8_init_37 : decode cX8_init 37 = .ok (.return_, 1) := by decide +kernel
abbrev MX8_init : MI := (RX8, cX8_init, 1, 2, true)
def bX8_init : St := (seqS (oiS (lvR 0)) (seqS (putR 8 0 (lvR 0) (newR (16 * 2 ^ 10))) (seqS (putR 8 1 (lvR 0) (newR (16 * 2 ^ 10))) (seqS (putR 8 2 (lvR 0) (newR (16 * 2 ^ 10))) retV))))
theorem jX8_init : JS MX8_init 0 0 0 38 [] bX8_init :=
  (JS.seq (pc1 := 4) (JS.oi (pc1 := 1) (i := 3) (JX.al (k := 0) rfl dX8_init_0) gw534 rowO.2.1 rowO.2.2 (by decide) dX8_init_1) (JS.seq (pc1 := 15) (JS.pR (pc1 := 5) (pc2 := 12) (c := 8) (k := 0) (i := 12) (JX.al (k := 0) rfl dX8_init_4) (JX.newR (J := 10) (i := 9) (i2 := 11) (by decide) rowW rowO.1 rowO.2.1 rowO.2.2 gw535 gw30 gw2 nw536 gw32 gw33 (by decide) dX8_init_5 dX8_init_8 dX8_init_9 (by decide)) cl8 (by decide) (Or.inl ⟨_, rfl⟩) fk8_12 (Or.inr ⟨rfl, rfl, rfl, gw537⟩) dX8_init_12) (JS.seq (pc1 := 26) (JS.pR (pc1 := 16) (pc2 := 23) (c := 8) (k := 1) (i := 18) (JX.al (k := 0) rfl dX8_init_15) (JX.newR (J := 10) (i := 9) (i2 := 11) (by decide) rowW rowO.1 rowO.2.1 rowO.2.2 gw535 gw30 gw2 nw536 gw32 gw33 (by decide) dX8_init_16 dX8_init_19 dX8_init_20 (by decide)) cl8 (by decide) (Or.inl ⟨_, rfl⟩) fk8_18 (Or.inr ⟨rfl, rfl, rfl, gw539⟩) dX8_init_23) (JS.seq (pc1 := 37) (JS.pR (pc1 := 27) (pc2 := 34) (c := 8) (k := 2) (i := 21) (JX.al (k := 0) rfl dX8_init_26) (JX.newR (J := 10) (i := 9) (i2 := 11) (by decide) rowW rowO.1 rowO.2.1 rowO.2.2 gw535 gw30 gw2 nw536 gw32 gw33 (by decide) dX8_init_27 dX8_init_30 dX8_init_31 (by decide)) cl8 (by decide) (Or.inl ⟨_, rfl⟩) fk8_21 (Or.inr ⟨rfl, rfl, rfl, gw540⟩) dX8_init_34) (JS.retV dX8_init_37)))))
def mX8_init : MS := runM 1 none bX8_init
theorem aX8_init : MA yX8_init cX8_init 1 none 2 mX8_init := MA.of (plainFor_of_name (by decide)) jX8_init
theorem eX8_init (a0 : Nat) (h : AH) : mX8_init [.ref a0] h = (bX8_init [.val (.ref a0)] h).bind (finM none) := rfl
/-! Cutter.<init> -/
theorem dX1_init_0 : decode cX1_init 0 = .ok (.aload_n 0, 1) := by decide +kernel
theorem dX1_init_1 : decode cX1_init 1 = .ok (.invokespecial 3, 3) := by decide +kernel
theorem dX1_init_4 : decode cX1_init 4 = .ok (.aload_n 0, 1) := by decide +kernel
theorem dX1_init_5 : decode cX1_init 5 = .ok (.new 9, 3) := by decide +kernel
theorem dX1_init_8 : decode cX1_init 8 = .ok (.dup, 1) := by decide +kernel
theorem dX1_init_9 : decode cX1_init 9 = .ok (.invokespecial 11, 3) := by decide +kernel
theorem dX1_init_12 : decode cX1_init 12 = .ok (.putfield 12, 3) := by decide +kernel
theorem dX1_init_15 : decode cX1_init 15 = .ok (.aload_n 0, 1) := by decide +kernel
theorem dX1_init_16 : decode cX1_init 16 = .ok (.new 9, 3) := by decide +kernel
theorem dX1_init_19 : decode cX1_init 19 = .ok (.dup, 1) := by decide +kernel
theorem dX1_init_20 : decode cX1_init 20 = .ok (.invokespecial 11, 3) := by decide +kernel
theorem dX1_init_23 : decode cX1_init 23 = .ok (.putfield 18, 3) := by decide +kernel
theorem dX1_init_26 : decode cX1_init 26 = .ok (.return_, 1) := by decide +kernel
abbrev MX1_init : MI := (RX1, cX1_init, 1, 2, true)
def bX1_init : St := (seqS (oiS (lvR 0)) (seqS (putR 1 0 (lvR 0) (newR (16 * 2 ^ 10))) (seqS (putR 1 1 (lvR 0) (newR (16 * 2 ^ 10))) retV)))
theorem jX1_init : JS MX1_init 0 0 0 27 [] bX1_init :=
  (JS.seq (pc1 := 4) (JS.oi (pc1 := 1) (i := 3) (JX.al (k := 0) rfl dX1_init_0) gw242 rowO.2.1 rowO.2.2 (by decide) dX1_init_1) (JS.seq (pc1 := 15) (JS.pR (pc1 := 5) (pc2 := 12) (c := 1) (k := 0) (i := 12) (JX.al (k := 0) rfl dX1_init_4) (JX.newR (J := 10) (i := 9) (i2 := 11) (by decide) rowW rowO.1 rowO.2.1 rowO.2.2 gw243 gw30 gw2 nw244 gw32 gw33 (by decide) dX1_init_5 dX1_init_8 dX1_init_9 (by decide)) cl1 (by decide) (Or.inl ⟨_, rfl⟩) fk1_12 (Or.inr ⟨rfl, rfl, rfl, gw245⟩) dX1_init_12) (JS.seq (pc1 := 26) (JS.pR (pc1 := 16) (pc2 := 23) (c := 1) (k := 1) (i := 18) (JX.al (k := 0) rfl dX1_init_15) (JX.newR (J := 10) (i := 9) (i2 := 11) (by decide) rowW rowO.1 rowO.2.1 rowO.2.2 gw243 gw30 gw2 nw244 gw32 gw33 (by decide) dX1_init_16 dX1_init_19 dX1_init_20 (by decide)) cl1 (by decide) (Or.inl ⟨_, rfl⟩) fk1_18 (Or.inr ⟨rfl, rfl, rfl, gw249⟩) dX1_init_23) (JS.retV dX1_init_26))))
def mX1_init : MS := runM 1 none bX1_init
theorem aX1_init : MA yX1_init cX1_init 1 none 2 mX1_init := MA.of (plainFor_of_name (by decide)) jX1_init
theorem eX1_init (a0 : Nat) (h : AH) : mX1_init [.ref a0] h = (bX1_init [.val (.ref a0)] h).bind (finM none) := rfl
/-! Forms.<init> -/
theorem dX3_init_0 : decode cX3_init 0 = .ok (.aload_n 0, 1) := by decide +kernel
theorem dX3_init_1 : decode cX3_init 1 = .ok (.invokespecial 3, 3) := by decide +kernel
theorem dX3_init_4 : decode cX3_init 4 = .ok (.aload_n 0, 1) := by decide +kernel
theorem dX3_init_5 : decode cX3_init 5 = .ok (.new 9, 3) := by decide +kernel
theorem dX3_init_8 : decode cX3_init 8 = .ok (.dup, 1) := by decide +kernel
theorem dX3_init_9 : decode cX3_init 9 = .ok (.invokespecial 11, 3) := by decide +kernel
theorem dX3_init_12 : decode cX3_init 12 = .ok (.putfield 12, 3) := by decide +kernel
theorem dX3_init_15 : decode cX3_init 15 = .ok (.aload_n 0, 1) := by decide +kernel
theorem dX3_init_16 : decode cX3_init 16 = .ok (.new 9, 3) := by decide +kernel
theorem dX3_init_19 : decode cX3_init 19 = .ok (.dup, 1) := by decide +kernel
theorem dX3_init_20 : decode cX3_init 20 = .ok (.invokespecial 11, 3) := by decide +kernel
theorem dX3_init_23 : decode cX3_init 23 = .ok (.putfield 18, 3) := by decide +kernel
theorem dX3_init_26 : decode cX3_init 26 = .ok (.aload_n 0, 1) := by decide +kernel
theorem dX3_init_27 : decode cX3_init 27 = .ok (.new 9, 3) := by decide +kernel
theorem dX3_init_30 : decode cX3_init 30 = .ok (.dup, 1) := by decide +kernel
theorem dX3_init_31 : decode cX3_init 31 = .ok (.invokespecial 11, 3) := by decide +kernel
theorem dX3_init_34 : decode cX3_init 34 = .ok (.putfield 21, 3) := by decide +kernel
theorem dX3_init_37 : decode cX3_init 37 = .ok (.aload_n 0, 1) := by decide +kernel
theorem dX3_init_38 : decode cX3_init 38 = .ok (.new 9, 3) := by decide +kernel
theorem dX3_init_41 : decode cX3_init 41 = .ok (.dup, 1) := by decide +kernel
theorem dX3_init_42 : decode cX3_init 42 = .ok (.invokespecial 11, 3) := by decide +kernel
theorem dX3_init_45 : decode cX3_init 45 = .ok (.putfield 24, 3) := by decide +kernel
theorem dX3_init_48 : decode cX3_init 48 = .ok (.aload_n 0, 1) := by decide +kernel
theorem dX3_init_49 : decode cX3_init 49 = .ok (.new 9, 3) := by decide +kernel
theorem dX3_init_52 : decode cX3_init 52 = .ok (.dup, 1) := by decide +kernel
theorem dX3_init_53 : decode cX3_init 53 = .ok (.invokespecial 11, 3) := by decide +kernel
theorem dX3_init_56 : decode cX3_init 56 = .ok (.putfield 27, 3) := by decide +kernel
theorem dX3_init_59 : decode cX3_init 59 = .ok (.aload_n 0, 1) := by decide +kernel
theorem dX3_init_60 : decode cX3_init 60 = .ok (.new 9, 3) := by decide +kernel
theorem dX3_init_63 : decode cX3_init 63 = .ok (.dup, 1) := by decide +kernel
theorem dX3_init_64 : decode cX3_init 64 = .ok (.invokespecial 11, 3) := by decide +kernel
theorem dX3_init_67 : decode cX3_init 67 = .ok (.putfield 30, 3) := by decide +kernel
theorem dX3_init_70 : decode cX3_init 70 = .ok (.aload_n 0, 1) := by decide +kernel
theorem dX3_init_71 : decode cX3_init 71 = .ok (.new 9, 3) := by decide +kernel
theorem dX3_init_74 : decode cX3_init 74 = .ok (.dup, 1) := by decide +kernel
theorem dX3_init_75 : decode cX3_init 75 = .ok (.invokespecial 11, 3) := by decide +kernel
theorem dX3_init_78 : decode cX3_init 78 = .ok (.putfield 33, 3) := by decide +kernel
theorem dX3_init_81 : decode cX3_init 81 = .ok (.aload_n 0, 1) := by decide +kernel
theorem dX3_init_82 : decode cX3_init 82 = .ok (.new 9, 3) := by decide +kernel
theorem dX3_init_85 : decode cX3_init 85 = .ok (.dup, 1) := by decide +kernel
theorem dX3_init_86 : decode cX3_init 86 = .ok (.invokespecial 11, 3) := by decide +kernel
theorem dX3_init_89 : decode cX3_init 89 = .ok (.putfield 36, 3) := by decide +kernel
theorem dX3_init_92 : decode cX3_init 92 = .ok (.return_, 1) := by decide +kernel
abbrev MX3_init : MI := (RX3, cX3_init, 1, 2, true)
def bX3_init : St := (seqS (oiS (lvR 0)) (seqS (putR 3 0 (lvR 0) (newR (16 * 2 ^ 10))) (seqS (putR 3 1 (lvR 0) (newR (16 * 2 ^ 10))) (seqS (putR 3 2 (lvR 0) (newR (16 * 2 ^ 10))) (seqS (putR 3 3 (lvR 0) (newR (16 * 2 ^ 10))) (seqS (putR 3 4 (lvR 0) (newR (16 * 2 ^ 10))) (seqS (putR 3 5 (lvR 0) (newR (16 * 2 ^ 10))) (seqS (putR 3 6 (lvR 0) (newR (16 * 2 ^ 10))) (seqS (putR 3 7 (lvR 0) (newR (16 * 2 ^ 10))) retV)))))))))
theorem jX3_init : JS MX3_init 0 0 0 93 [] bX3_init :=
  (JS.seq (pc1 := 4) (JS.oi (pc1 := 1) (i := 3) (JX.al (k := 0) rfl dX3_init_0) gw260 rowO.2.1 rowO.2.2 (by decide) dX3_init_1) (JS.seq (pc1 := 15) (JS.pR (pc1 := 5) (pc2 := 12) (c := 3) (k := 0) (i := 12) (JX.al (k := 0) rfl dX3_init_4) (JX.newR (J := 10) (i := 9) (i2 := 11) (by decide) rowW rowO.1 rowO.2.1 rowO.2.2 gw261 gw30 gw2 nw262 gw32 gw33 (by decide) dX3_init_5 dX3_init_8 dX3_init_9 (by decide)) cl3 (by decide) (Or.inl ⟨_, rfl⟩) fk3_12 (Or.inr ⟨rfl, rfl, rfl, gw263⟩) dX3_init_12) (JS.seq (pc1 := 26) (JS.pR (pc1 := 16) (pc2 := 23) (c := 3) (k := 1) (i := 18) (JX.al (k := 0) rfl dX3_init_15) (JX.newR (J := 10) (i := 9) (i2 := 11) (by decide) rowW rowO.1 rowO.2.1 rowO.2.2 gw261 gw30 gw2 nw262 gw32 gw33 (by decide) dX3_init_16 dX3_init_19 dX3_init_20 (by decide)) cl3 (by decide) (Or.inl ⟨_, rfl⟩) fk3_18 (Or.inr ⟨rfl, rfl, rfl, gw265⟩) dX3_init_23) (JS.seq (pc1 := 37) (JS.pR (pc1 := 27) (pc2 := 34) (c := 3) (k := 2) (i := 21) (JX.al (k := 0) rfl dX3_init_26) (JX.newR (J := 10) (i := 9) (i2 := 11) (by decide) rowW rowO.1 rowO.2.1 rowO.2.2 gw261 gw30 gw2 nw262 gw32 gw33 (by decide) dX3_init_27 dX3_init_30 dX3_init_31 (by decide)) cl3 (by decide) (Or.inl ⟨_, rfl⟩) fk3_21 (Or.inr ⟨rfl, rfl, rfl, gw266⟩) dX3_init_34) (JS.seq (pc1 := 48) (JS.pR (pc1 := 38) (pc2 := 45) (c := 3) (k := 3) (i := 24) (JX.al (k := 0) rfl dX3_init_37) (JX.newR (J := 10) (i := 9) (i2 := 11) (by decide) rowW rowO.1 rowO.2.1 rowO.2.2 gw261 gw30 gw2 nw262 gw32 gw33 (by decide) dX3_init_38 dX3_init_41 dX3_init_42 (by decide)) cl3 (by decide) (Or.inl ⟨_, rfl⟩) fk3_24 (Or.inr ⟨rfl, rfl, rfl, gw268⟩) dX3_init_45) (JS.seq (pc1 := 59) (JS.pR (pc1 := 49) (pc2 := 56) (c := 3) (k := 4) (i := 27) (JX.al (k := 0) rfl dX3_init_48) (JX.newR (J := 10) (i := 9) (i2 := 11) (by decide) rowW rowO.1 rowO.2.1 rowO.2.2 gw261 gw30 gw2 nw262 gw32 gw33 (by decide) dX3_init_49 dX3_init_52 dX3_init_53 (by decide)) cl3 (by decide) (Or.inl ⟨_, rfl⟩) fk3_27 (Or.inr ⟨rfl, rfl, rfl, gw271⟩) dX3_init_56) (JS.seq (pc1 := 70) (JS.pR (pc1 := 60) (pc2 := 67) (c := 3) (k := 5) (i := 30) (JX.al (k := 0) rfl dX3_init_59) (JX.newR (J := 10) (i := 9) (i2 := 11) (by decide) rowW rowO.1 rowO.2.1 rowO.2.2 gw261 gw30 gw2 nw262 gw32 gw33 (by decide) dX3_init_60 dX3_init_63 dX3_init_64 (by decide)) cl3 (by decide) (Or.inl ⟨_, rfl⟩) fk3_30 (Or.inr ⟨rfl, rfl, rfl, gw272⟩) dX3_init_67) (JS.seq (pc1 := 81) (JS.pR (pc1 := 71) (pc2 := 78) (c := 3) (k := 6) (i := 33) (JX.al (k := 0) rfl dX3_init_70) (JX.newR (J := 10) (i := 9) (i2 := 11) (by decide) rowW rowO.1 rowO.2.1 rowO.2.2 gw261 gw30 gw2 nw262 gw32 gw33 (by decide) dX3_init_71 dX3_init_74 dX3_init_75 (by decide)) cl3 (by decide) (Or.inl ⟨_, rfl⟩) fk3_33 (Or.inr ⟨rfl, rfl, rfl, gw273⟩) dX3_init_78) (JS.seq (pc1 := 92) (JS.pR (pc1 := 82) (pc2 := 89) (c := 3) (k := 7) (i := 36) (JX.al (k := 0) rfl dX3_init_81) (JX.newR (J := 10) (i := 9) (i2 := 11) (by decide) rowW rowO.1 rowO.2.1 rowO.2.2 gw261 gw30 gw2 nw262 gw32 gw33 (by decide) dX3_init_82 dX3_init_85 dX3_init_86 (by decide)) cl3 (by decide) (Or.inl ⟨_, rfl⟩) fk3_36 (Or.inr ⟨rfl, rfl, rfl, gw275⟩) dX3_init_89) (JS.retV dX3_init_92))))))))))
def mX3_init : MS := runM 1 none bX3_init
theorem aX3_init : MA yX3_init cX3_init 1 none 2 mX3_init := MA.of (plainFor_of_name (by decide)) jX3_init
theorem eX3_init (a0 : Nat) (h : AH) : mX3_init [.ref a0] h = (bX3_init [.val (.ref a0)] h).bind (finM none) := rfl
/-! Saver.<init> -/
theorem dX7_init_0 : decode cX7_init 0 = .ok (.aload_n 0, 1) := by decide +kernel
theorem dX7_init_1 : decode cX7_init 1 = .ok (.invokespecial 3, 3) := by decide +kernel
theorem dX7_init_4 : decode cX7_init 4 = .ok (.aload_n 0, 1) := by decide +kernel
theorem dX7_init_5 : decode cX7_init 5 = .ok (.new 9, 3) := by decide +kernel
theorem dX7_init_8 : decode cX7_init 8 = .ok (.dup, 1) := by decide +kernel
theorem dX7_init_9 : decode cX7_init 9 = .ok (.invokespecial 11, 3) := by decide +kernel
theorem dX7_init_12 : decode cX7_init 12 = .ok (.putfield 12, 3) := by decide +kernel
theorem dX7_init_15 : decode cX7_init 15 = .ok (.aload_n 0, 1) := by decide +kernel
theorem dX7_init_16 : decode cX7_init 16 = .ok (.new 9, 3) := by decide +kernel
theorem dX7_init_19 : decode cX7_init 19 = .ok (.dup, 1) := by decide +kernel
theorem dX7_init_20 : decode cX7_init 20 = .ok (.invokespecial 11, 3) := by decide +kernel
theorem dX7_init_23 : decode cX7_init 23 = .ok (.putfield 18, 3) := by decide +kernel
theorem dX7_init_26 : decode cX7_init 26 = .ok (.aload_n 0, 1) := by decide +kernel
theorem dX7_init_27 : decode cX7_init 27 = .ok (.new 9, 3) := by decide +kernel
theorem dX7_init_30 : decode cX7_init 30 = .ok (.dup, 1) := by decide +kernel
theorem dX7_init_31 : decode cX7_init 31 = .ok (.invokespecial 11, 3) := by decide +kernel
theorem dX7_init_34 : decode cX7_init 34 = .ok (.putfield 21, 3) := by decide +kernel
theorem dX7_init_37 : decode cX7_init 37 = .ok (.aload_n 0, 1) := by decide +kernel
theorem dX7_init_38 : decode cX7_init 38 = .ok (.new 9, 3) := by decide +kernel
theorem dX7_init_41 : decode cX7_init 41 = .ok (.dup, 1) := by decide +kernel
theorem dX7_init_42 : decode cX7_init 42 = .ok (.invokespecial 11, 3) := by decide +kernel
theorem dX7_init_45 : decode cX7_init 45 = .ok (.putfield 24, 3) := by decide +kernel
theorem dX7_init_48 : decode cX7_init 48 = .ok (.aload_n 0, 1) := by decide +kernel
theorem dX7_init_49 : decode cX7_init 49 = .ok (.new 9, 3) := by decide +kernel
theorem dX7_init_52 : decode cX7_init 52 = .ok (.dup, 1) := by decide +kernel
theorem dX7_init_53 : decode cX7_init 53 = .ok (.invokespecial 11, 3) := by decide +kernel
theorem dX7_init_56 : decode cX7_init 56 = .ok (.putfield 27, 3) := by decide +kernel
theorem dX7_init_59 : decode cX7_init 59 = .ok (.aload_n 0, 1) := by decide +kernel
theorem dX7_init_60 : decode cX7_init 60 = .ok (.new 9, 3) := by decide +kernel
theorem dX7_init_63 : decode cX7_init 63 = .ok (.dup, 1) := by decide +kernel
theorem dX7_init_64 : decode cX7_init 64 = .ok (.invokespecial 11, 3) := by decide +kernel
theorem dX7_init_67 : decode cX7_init 67 = .ok (.putfield 30, 3) := by decide +kernel
theorem dX7_init_70 : decode cX7_init 70 = .ok (.return_, 1) := by decide +kernel
abbrev MX7_init : MI := (RX7, cX7_init, 1, 2, true)
def bX7_init : St := (seqS (oiS (lvR 0)) (seqS (putR 7 0 (lvR 0) (newR (16 * 2 ^ 10))) (seqS (putR 7 1 (lvR 0) (newR (16 * 2 ^ 10))) (seqS (putR 7 2 (lvR 0) (newR (16 * 2 ^ 10))) (seqS (putR 7 3 (lvR 0) (newR (16 * 2 ^ 10))) (seqS (putR 7 4 (lvR 0) (newR (16 * 2 ^ 10))) (seqS (putR 7 5 (lvR 0) (newR (16 * 2 ^ 10))) retV)))))))
theorem jX7_init : JS MX7_init 0 0 0 71 [] bX7_init :=
  (JS.seq (pc1 := 4) (JS.oi (pc1 := 1) (i := 3) (JX.al (k := 0) rfl dX7_init_0) gw299 rowO.2.1 rowO.2.2 (by decide) dX7_init_1) (JS.seq (pc1 := 15) (JS.pR (pc1 := 5) (pc2 := 12) (c := 7) (k := 0) (i := 12) (JX.al (k := 0) rfl dX7_init_4) (JX.newR (J := 10) (i := 9) (i2 := 11) (by decide) rowW rowO.1 rowO.2.1 rowO.2.2 gw300 gw30 gw2 nw301 gw32 gw33 (by decide) dX7_init_5 dX7_init_8 dX7_init_9 (by decide)) cl7 (by decide) (Or.inl ⟨_, rfl⟩) fk7_12 (Or.inr ⟨rfl, rfl, rfl, gw302⟩) dX7_init_12) (JS.seq (pc1 := 26) (JS.pR (pc1 := 16) (pc2 := 23) (c := 7) (k := 1) (i := 18) (JX.al (k := 0) rfl dX7_init_15) (JX.newR (J := 10) (i := 9) (i2 := 11) (by decide) rowW rowO.1 rowO.2.1 rowO.2.2 gw300 gw30 gw2 nw301 gw32 gw33 (by decide) dX7_init_16 dX7_init_19 dX7_init_20 (by decide)) cl7 (by decide) (Or.inl ⟨_, rfl⟩) fk7_18 (Or.inr ⟨rfl, rfl, rfl, gw304⟩) dX7_init_23) (JS.seq (pc1 := 37) (JS.pR (pc1 := 27) (pc2 := 34) (c := 7) (k := 2) (i := 21) (JX.al (k := 0) rfl dX7_init_26) (JX.newR (J := 10) (i := 9) (i2 := 11) (by decide) rowW rowO.1 rowO.2.1 rowO.2.2 gw300 gw30 gw2 nw301 gw32 gw33 (by decide) dX7_init_27 dX7_init_30 dX7_init_31 (by decide)) cl7 (by decide) (Or.inl ⟨_, rfl⟩) fk7_21 (Or.inr ⟨rfl, rfl, rfl, gw305⟩) dX7_init_34) (JS.seq (pc1 := 48) (JS.pR (pc1 := 38) (pc2 := 45) (c := 7) (k := 3) (i := 24) (JX.al (k := 0) rfl dX7_init_37) (JX.newR (J := 10) (i := 9) (i2 := 11) (by decide) rowW rowO.1 rowO.2.1 rowO.2.2 gw300 gw30 gw2 nw301 gw32 gw33 (by decide) dX7_init_38 dX7_init_41 dX7_init_42 (by decide)) cl7 (by decide) (Or.inl ⟨_, rfl⟩) fk7_24 (Or.inr ⟨rfl, rfl, rfl, gw306⟩) dX7_init_45) (JS.seq (pc1 := 59) (JS.pR (pc1 := 49) (pc2 := 56) (c := 7) (k := 4) (i := 27) (JX.al (k := 0) rfl dX7_init_48) (JX.newR (J := 10) (i := 9) (i2 := 11) (by decide) rowW rowO.1 rowO.2.1 rowO.2.2 gw300 gw30 gw2 nw301 gw32 gw33 (by decide) dX7_init_49 dX7_init_52 dX7_init_53 (by decide)) cl7 (by decide) (Or.inl ⟨_, rfl⟩) fk7_27 (Or.inr ⟨rfl, rfl, rfl, gw307⟩) dX7_init_56) (JS.seq (pc1 := 70) (JS.pR (pc1 := 60) (pc2 := 67) (c := 7) (k := 5) (i := 30) (JX.al (k := 0) rfl dX7_init_59) (JX.newR (J := 10) (i := 9) (i2 := 11) (by decide) rowW rowO.1 rowO.2.1 rowO.2.2 gw300 gw30 gw2 nw301 gw32 gw33 (by decide) dX7_init_60 dX7_init_63 dX7_init_64 (by decide)) cl7 (by decide) (Or.inl ⟨_, rfl⟩) fk7_30 (Or.inr ⟨rfl, rfl, rfl, gw308⟩) dX7_init_67) (JS.retV dX7_init_70))))))))
def mX7_init : MS := runM 1 none bX7_init
theorem aX7_init : MA yX7_init cX7_init 1 none 2 mX7_init := MA.of (plainFor_of_name (by decide)) jX7_init
theorem eX7_init (a0 : Nat) (h : AH) : mX7_init [.ref a0] h = (bX7_init [.val (.ref a0)] h).bind (finM none) := rfl
/-! State.<init> -/
theorem dX9_init_0 : decode cX9_init 0 = .ok (.aload_n 0, 1) := by decide +kernel
theorem dX9_init_1 : decode cX9_init 1 = .ok (.invokespecial 3, 3) := by decide +kernel
theorem dX9_init_4 : decode cX9_init 4 = .ok (.aload_n 0, 1) := by decide +kernel
theorem dX9_init_5 : decode cX9_init 5 = .ok (.new 9, 3) := by decide +kernel
theorem dX9_init_8 : decode cX9_init 8 = .ok (.dup, 1) := by decide +kernel
theorem dX9_init_9 : decode cX9_init 9 = .ok (.invokespecial 11, 3) := by decide +kernel
theorem dX9_init_12 : decode cX9_init 12 = .ok (.putfield 12, 3) := by decide +kernel
theorem dX9_init_15 : decode cX9_init 15 = .ok (.aload_n 0, 1) := by decide +kernel
theorem dX9_init_16 : decode cX9_init 16 = .ok (.new 9, 3) := by decide +kernel
theorem dX9_init_19 : decode cX9_init 19 = .ok (.dup, 1) := by decide +kernel
theorem dX9_init_20 : decode cX9_init 20 = .ok (.invokespecial 11, 3) := by decide +kernel
theorem dX9_init_23 : decode cX9_init 23 = .ok (.putfield 18, 3) := by decide +kernel
theorem dX9_init_26 : decode cX9_init 26 = .ok (.aload_n 0, 1) := by decide +kernel
theorem dX9_init_27 : decode cX9_init 27 = .ok (.new 9, 3) := by decide +kernel
theorem dX9_init_30 : decode cX9_init 30 = .ok (.dup, 1) := by decide +kernel
theorem dX9_init_31 : decode cX9_init 31 = .ok (.invokespecial 11, 3) := by decide +kernel
theorem dX9_init_34 : decode cX9_init 34 = .ok (.putfield 21, 3) := by decide +kernel
theorem dX9_init_37 : decode cX9_init 37 = .ok (.aload_n 0, 1) := by decide +kernel
theorem dX9_init_38 : decode cX9_init 38 = .ok (.new 9, 3) := by decide +kernel
theorem dX9_init_41 : decode cX9_init 41 = .ok (.dup, 1) := by decide +kernel
theorem dX9_init_42 : decode cX9_init 42 = .ok (.invokespecial 11, 3) := by decide +kernel
theorem dX9_init_45 : decode cX9_init 45 = .ok (.putfield 24, 3) := by decide +kernel
theorem dX9_init_48 : decode cX9_init 48 = .ok (.aload_n 0, 1) := by decide +kernel
theorem dX9_init_49 : decode cX9_init 49 = .ok (.new 9, 3) := by decide +kernel
theorem dX9_init_52 : decode cX9_init 52 = .ok (.dup, 1) := by decide +kernel
theorem dX9_init_53 : decode cX9_init 53 = .ok (.invokespecial 11, 3) := by decide +kernel
theorem dX9_init_56 : decode cX9_init 56 = .ok (.putfield 27, 3) := by decide +kernel
theorem dX9_init_59 : decode cX9_init 59 = .ok (.aload_n 0, 1) := by decide +kernel
theorem dX9_init_60 : decode cX9_init 60 = .ok (.new 9, 3) := by decide +kernel
theorem dX9_init_63 : decode cX9_init 63 = .ok (.dup, 1) := by decide +kernel
theorem dX9_init_64 : decode cX9_init 64 = .ok (.invokespecial 11, 3) := by decide +kernel
theorem dX9_init_67 : decode cX9_init 67 = .ok (.putfield 30, 3) := by decide +kernel
theorem dX9_init_70 : decode cX9_init 70 = .ok (.aload_n 0, 1) := by decide +kernel
theorem dX9_init_71 : decode cX9_init 71 = .ok (.new 9, 3) := by decide +kernel
theorem dX9_init_74 : decode cX9_init 74 = .ok (.dup, 1) := by decide +kernel
theorem dX9_init_75 : decode cX9_init 75 = .ok (.invokespecial 11, 3) := by decide +kernel
theorem dX9_init_78 : decode cX9_init 78 = .ok (.putfield 33, 3) := by decide +kernel
theorem dX9_init_81 : decode cX9_init 81 = .ok (.aload_n 0, 1) := by decide +kernel
theorem dX9_init_82 : decode cX9_init 82 = .ok (.new 9, 3) := by decide +kernel
theorem dX9_init_85 : decode cX9_init 85 = .ok (.dup, 1) := by decide +kernel
theorem dX9_init_86 : decode cX9_init 86 = .ok (.invokespecial 11, 3) := by decide +kernel
theorem dX9_init_89 : decode cX9_init 89 = .ok (.putfield 36, 3) := by decide +kernel
theorem dX9_init_92 : decode cX9_init 92 = .ok (.aload_n 0, 1) := by decide +kernel
theorem dX9_init_93 : decode cX9_init 93 = .ok (.new 9, 3) := by decide +kernel
theorem dX9_init_96 : decode cX9_init 96 = .ok (.dup, 1) := by decide +kernel
theorem dX9_init_97 : decode cX9_init 97 = .ok (.invokespecial 11, 3) := by decide +kernel
theorem dX9_init_100 : decode cX9_init 100 = .ok (.putfield 39, 3) := by decide +kernel
theorem dX9_init_103 : decode cX9_init 103 = .ok (.aload_n 0, 1) := by decide +kernel
theorem dX9_init_104 : decode cX9_init 104 = .ok (.new 9, 3) := by decide +kernel
theorem dX9_init_107 : decode cX9_init 107 = .ok (.dup, 1) := by decide +kernel
theorem dX9_init_108 : decode cX9_init 108 = .ok (.invokespecial 11, 3) := by decide +kernel
theorem dX9_init_111 : decode cX9_init 111 = .ok (.putfield 42, 3) := by decide +kernel
theorem dX9_init_114 : decode cX9_init 114 = .ok (.aload_n 0, 1) := by decide +kernel
theorem dX9_init_115 : decode cX9_init 115 = .ok (.iconst 0, 1) := by decide +kernel
theorem dX9_init_116 : decode cX9_init 116 = .ok (.putfield 45, 3) := by decide +kernel
theorem dX9_init_119 : decode cX9_init 119 = .ok (.aload_n 0, 1) := by decide +kernel
theorem dX9_init_120 : decode cX9_init 120 = .ok (.iconst 0, 1) := by decide +kernel
theorem dX9_init_121 : decode cX9_init 121 = .ok (.putfield 49, 3) := by decide +kernel
theorem dX9_init_124 : decode cX9_init 124 = .ok (.aload_n 0, 1) := by decide +kernel
theorem dX9_init_125 : decode cX9_init 125 = .ok (.iconst 0, 1) := by decide +kernel
theorem dX9_init_126 : decode cX9_init 126 = .ok (.putfield 52, 3) := by decide +kernel
theorem dX9_init_129 : decode cX9_init 129 = .ok (.aload_n 0, 1) := by decide +kernel
theorem dX9_init_130 : decode cX9_init 130 = .ok (.iconst 0, 1) := by decide +kernel
theorem dX9_init_131 : decode cX9_init 131 = .ok (.putfield 55, 3) := by decide +kernel
theorem dX9_init_134 : decode cX9_init 134 = .ok (.aload_n 0, 1) := by decide +kernel
theorem dX9_init_135 : decode cX9_init 135 = .ok (.iconst 0, 1) := by decide +kernel
theorem dX9_init_136 : decode cX9_init 136 = .ok (.putfield 58, 3) := by decide +kernel
theorem dX9_init_139 : decode cX9_init 139 = .ok (.return_, 1) := by decide +kernel
abbrev MX9_init : MI := (RX9, cX9_init, 1, 2, true)
def bX9_init : St := (seqS (oiS (lvR 0)) (seqS (putR 9 0 (lvR 0) (newR (16 * 2 ^ 5))) (seqS (putR 9 1 (lvR 0) (newR (16 * 2 ^ 5))) (seqS (putR 9 2 (lvR 0) (newR (16 * 2 ^ 5))) (seqS (putR 9 3 (lvR 0) (newR (16 * 2 ^ 5))) (seqS (putR 9 4 (lvR 0) (newR (16 * 2 ^ 5))) (seqS (putR 9 5 (lvR 0) (newR (16 * 2 ^ 5))) (seqS (putR 9 6 (lvR 0) (newR (16 * 2 ^ 5))) (seqS (putR 9 7 (lvR 0) (newR (16 * 2 ^ 5))) (seqS (putR 9 8 (lvR 0) (newR (16 * 2 ^ 5))) (seqS (putR 9 9 (lvR 0) (newR (16 * 2 ^ 5))) (seqS (putI 9 10 (lvR 0) (ciI (iI 0))) (seqS (putI 9 11 (lvR 0) (ciI (iI 0))) (seqS (putI 9 12 (lvR 0) (ciI (iI 0))) (seqS (putI 9 13 (lvR 0) (ciI (iI 0))) (seqS (putI 9 14 (lvR 0) (ciI (iI 0))) retV))))))))))))))))
theorem jX9_init : JS MX9_init 0 0 0 140 [] bX9_init :=
  (JS.seq (pc1 := 4) (JS.oi (pc1 := 1) (i := 3) (JX.al (k := 0) rfl dX9_init_0) gw329 rowO.2.1 rowO.2.2 (by decide) dX9_init_1) (JS.seq (pc1 := 15) (JS.pR (pc1 := 5) (pc2 := 12) (c := 9) (k := 0) (i := 12) (JX.al (k := 0) rfl dX9_init_4) (JX.newR (J := 5) (i := 9) (i2 := 11) (by decide) rowW rowO.1 rowO.2.1 rowO.2.2 gw330 gw30 gw2 nw331 gw32 gw33 (by decide) dX9_init_5 dX9_init_8 dX9_init_9 (by decide)) cl9 (by decide) (Or.inl ⟨_, rfl⟩) fk9_12 (Or.inr ⟨rfl, rfl, rfl, gw332⟩) dX9_init_12) (JS.seq (pc1 := 26) (JS.pR (pc1 := 16) (pc2 := 23) (c := 9) (k := 1) (i := 18) (JX.al (k := 0) rfl dX9_init_15) (JX.newR (J := 5) (i := 9) (i2 := 11) (by decide) rowW rowO.1 rowO.2.1 rowO.2.2 gw330 gw30 gw2 nw331 gw32 gw33 (by decide) dX9_init_16 dX9_init_19 dX9_init_20 (by decide)) cl9 (by decide) (Or.inl ⟨_, rfl⟩) fk9_18 (Or.inr ⟨rfl, rfl, rfl, gw335⟩) dX9_init_23) (JS.seq (pc1 := 37) (JS.pR (pc1 := 27) (pc2 := 34) (c := 9) (k := 2) (i := 21) (JX.al (k := 0) rfl dX9_init_26) (JX.newR (J := 5) (i := 9) (i2 := 11) (by decide) rowW rowO.1 rowO.2.1 rowO.2.2 gw330 gw30 gw2 nw331 gw32 gw33 (by decide) dX9_init_27 dX9_init_30 dX9_init_31 (by decide)) cl9 (by decide) (Or.inl ⟨_, rfl⟩) fk9_21 (Or.inr ⟨rfl, rfl, rfl, gw338⟩) dX9_init_34) (JS.seq (pc1 := 48) (JS.pR (pc1 := 38) (pc2 := 45) (c := 9) (k := 3) (i := 24) (JX.al (k := 0) rfl dX9_init_37) (JX.newR (J := 5) (i := 9) (i2 := 11) (by decide) rowW rowO.1 rowO.2.1 rowO.2.2 gw330 gw30 gw2 nw331 gw32 gw33 (by decide) dX9_init_38 dX9_init_41 dX9_init_42 (by decide)) cl9 (by decide) (Or.inl ⟨_, rfl⟩) fk9_24 (Or.inr ⟨rfl, rfl, rfl, gw342⟩) dX9_init_45) (JS.seq (pc1 := 59) (JS.pR (pc1 := 49) (pc2 := 56) (c := 9) (k := 4) (i := 27) (JX.al (k := 0) rfl dX9_init_48) (JX.newR (J := 5) (i := 9) (i2 := 11) (by decide) rowW rowO.1 rowO.2.1 rowO.2.2 gw330 gw30 gw2 nw331 gw32 gw33 (by decide) dX9_init_49 dX9_init_52 dX9_init_53 (by decide)) cl9 (by decide) (Or.inl ⟨_, rfl⟩) fk9_27 (Or.inr ⟨rfl, rfl, rfl, gw345⟩) dX9_init_56) (JS.seq (pc1 := 70) (JS.pR (pc1 := 60) (pc2 := 67) (c := 9) (k := 5) (i := 30) (JX.al (k := 0) rfl dX9_init_59) (JX.newR (J := 5) (i := 9) (i2 := 11) (by decide) rowW rowO.1 rowO.2.1 rowO.2.2 gw330 gw30 gw2 nw331 gw32 gw33 (by decide) dX9_init_60 dX9_init_63 dX9_init_64 (by decide)) cl9 (by decide) (Or.inl ⟨_, rfl⟩) fk9_30 (Or.inr ⟨rfl, rfl, rfl, gw348⟩) dX9_init_67) (JS.seq (pc1 := 81) (JS.pR (pc1 := 71) (pc2 := 78) (c := 9) (k := 6) (i := 33) (JX.al (k := 0) rfl dX9_init_70) (JX.newR (J := 5) (i := 9) (i2 := 11) (by decide) rowW rowO.1 rowO.2.1 rowO.2.2 gw330 gw30 gw2 nw331 gw32 gw33 (by decide) dX9_init_71 dX9_init_74 dX9_init_75 (by decide)) cl9 (by decide) (Or.inl ⟨_, rfl⟩) fk9_33 (Or.inr ⟨rfl, rfl, rfl, gw351⟩) dX9_init_78) (JS.seq (pc1 := 92) (JS.pR (pc1 := 82) (pc2 := 89) (c := 9) (k := 7) (i := 36) (JX.al (k := 0) rfl dX9_init_81) (JX.newR (J := 5) (i := 9) (i2 := 11) (by decide) rowW rowO.1 rowO.2.1 rowO.2.2 gw330 gw30 gw2 nw331 gw32 gw33 (by decide) dX9_init_82 dX9_init_85 dX9_init_86 (by decide)) cl9 (by decide) (Or.inl ⟨_, rfl⟩) fk9_36 (Or.inr ⟨rfl, rfl, rfl, gw354⟩) dX9_init_89) (JS.seq (pc1 := 103) (JS.pR (pc1 := 93) (pc2 := 100) (c := 9) (k := 8) (i := 39) (JX.al (k := 0) rfl dX9_init_92) (JX.newR (J := 5) (i := 9) (i2 := 11) (by decide) rowW rowO.1 rowO.2.1 rowO.2.2 gw330 gw30 gw2 nw331 gw32 gw33 (by decide) dX9_init_93 dX9_init_96 dX9_init_97 (by decide)) cl9 (by decide) (Or.inl ⟨_, rfl⟩) fk9_39 (Or.inr ⟨rfl, rfl, rfl, gw357⟩) dX9_init_100) (JS.seq (pc1 := 114) (JS.pR (pc1 := 104) (pc2 := 111) (c := 9) (k := 9) (i := 42) (JX.al (k := 0) rfl dX9_init_103) (JX.newR (J := 5) (i := 9) (i2 := 11) (by decide) rowW rowO.1 rowO.2.1 rowO.2.2 gw330 gw30 gw2 nw331 gw32 gw33 (by decide) dX9_init_104 dX9_init_107 dX9_init_108 (by decide)) cl9 (by decide) (Or.inl ⟨_, rfl⟩) fk9_42 (Or.inr ⟨rfl, rfl, rfl, gw359⟩) dX9_init_111) (JS.seq (pc1 := 119) (JS.pI (pc1 := 115) (pc2 := 116) (c := 9) (k := 10) (i := 45) (JX.al (k := 0) rfl dX9_init_114) (JX.ic (n := 0) rfl dX9_init_115) cl9 (by decide) rfl fk9_45 (Or.inl rfl) dX9_init_116) (JS.seq (pc1 := 124) (JS.pI (pc1 := 120) (pc2 := 121) (c := 9) (k := 11) (i := 49) (JX.al (k := 0) rfl dX9_init_119) (JX.ic (n := 0) rfl dX9_init_120) cl9 (by decide) rfl fk9_49 (Or.inl rfl) dX9_init_121) (JS.seq (pc1 := 129) (JS.pI (pc1 := 125) (pc2 := 126) (c := 9) (k := 12) (i := 52) (JX.al (k := 0) rfl dX9_init_124) (JX.ic (n := 0) rfl dX9_init_125) cl9 (by decide) rfl fk9_52 (Or.inl rfl) dX9_init_126) (JS.seq (pc1 := 134) (JS.pI (pc1 := 130) (pc2 := 131) (c := 9) (k := 13) (i := 55) (JX.al (k := 0) rfl dX9_init_129) (JX.ic (n := 0) rfl dX9_init_130) cl9 (by decide) rfl fk9_55 (Or.inl rfl) dX9_init_131) (JS.seq (pc1 := 139) (JS.pI (pc1 := 135) (pc2 := 136) (c := 9) (k := 14) (i := 58) (JX.al (k := 0) rfl dX9_init_134) (JX.ic (n := 0) rfl dX9_init_135) cl9 (by decide) rfl fk9_58 (Or.inl rfl) dX9_init_136) (JS.retV dX9_init_139)))))))))))))))))
def mX9_init : MS := runM 1 none bX9_init
theorem aX9_init : MA yX9_init cX9_init 1 none 2 mX9_init := MA.of (plainFor_of_name (by decide)) jX9_init
theorem eX9_init (a0 : Nat) (h : AH) : mX9_init [.ref a0] h = (bX9_init [.val (.ref a0)] h).bind (finM none) := rfl
/-! Forms.clear -/
theorem dX3_clear_0 : decode cX3_clear 0 = .ok (.aload_n 0, 1) := by decide +kernel
theorem dX3_clear_1 : decode cX3_clear 1 = .ok (.getfield 12, 3) := by decide +kernel
theorem dX3_clear_4 : decode cX3_clear 4 = .ok (.invokevirtual 39, 3) := by decide +kernel
theorem dX3_clear_7 : decode cX3_clear 7 = .ok (.aload_n 0, 1) := by decide +kernel
theorem dX3_clear_8 : decode cX3_clear 8 = .ok (.getfield 18, 3) := by decide +kernel
theorem dX3_clear_11 : decode cX3_clear 11 = .ok (.invokevirtual 39, 3) := by decide +kernel
theorem dX3_clear_14 : decode cX3_clear 14 = .ok (.aload_n 0, 1) := by decide +kernel
theorem dX3_clear_15 : decode cX3_clear 15 = .ok (.getfield 21, 3) := by decide +kernel
theorem dX3_clear_18 : decode cX3_clear 18 = .ok (.invokevirtual 39, 3) := by decide +kernel
theorem dX3_clear_21 : decode cX3_clear 21 = .ok (.aload_n 0, 1) := by decide +kernel
theorem dX3_clear_22 : decode cX3_clear 22 = .ok (.getfield 24, 3) := by decide +kernel
theorem dX3_clear_25 : decode cX3_clear 25 = .ok (.invokevirtual 39, 3) := by decide +kernel
theorem dX3_clear_28 : decode cX3_clear 28 = .ok (.aload_n 0, 1) := by decide +kernel
theorem dX3_clear_29 : decode cX3_clear 29 = .ok (.getfield 27, 3) := by decide +kernel
theorem dX3_clear_32 : decode cX3_clear 32 = .ok (.sipush 256, 3) := by decide +kernel
theorem dX3_clear_35 : decode cX3_clear 35 = .ok (.iconst (-1), 1) := by decide +kernel
theorem dX3_clear_36 : decode cX3_clear 36 = .ok (.invokevirtual 42, 3) := by decide +kernel
theorem dX3_clear_39 : decode cX3_clear 39 = .ok (.aload_n 0, 1) := by decide +kernel
theorem dX3_clear_40 : decode cX3_clear 40 = .ok (.getfield 30, 3) := by decide +kernel
theorem dX3_clear_43 : decode cX3_clear 43 = .ok (.invokevirtual 39, 3) := by decide +kernel
theorem dX3_clear_46 : decode cX3_clear 46 = .ok (.aload_n 0, 1) := by decide +kernel
theorem dX3_clear_47 : decode cX3_clear 47 = .ok (.getfield 33, 3) := by decide +kernel
theorem dX3_clear_50 : decode cX3_clear 50 = .ok (.invokevirtual 39, 3) := by decide +kernel
theorem dX3_clear_53 : decode cX3_clear 53 = .ok (.aload_n 0, 1) := by decide +kernel
theorem dX3_clear_54 : decode cX3_clear 54 = .ok (.getfield 36, 3) := by decide +kernel
theorem dX3_clear_57 : decode cX3_clear 57 = .ok (.invokevirtual 39, 3) := by decide +kernel
theorem dX3_clear_60 : decode cX3_clear 60 = .ok (.return_, 1) := by decide +kernel
abbrev MX3_clear : MI := (RX3, cX3_clear, 1, 4, false)
def bX3_clear : St := (seqS (calS (ckV 5 0) mX5_clear (agC va_rf (getR 3 0 (lvR 0)) agN)) (seqS (calS (ckV 5 0) mX5_clear (agC va_rf (getR 3 1 (lvR 0)) agN)) (seqS (calS (ckV 5 0) mX5_clear (agC va_rf (getR 3 2 (lvR 0)) agN)) (seqS (calS (ckV 5 0) mX5_clear (agC va_rf (getR 3 3 (lvR 0)) agN)) (seqS (calS (ckV 5 2) mX5_fill (agC va_rf (getR 3 4 (lvR 0)) (agC Value.int (ciI (iI 256)) (agC Value.int (ciI (iI (-1))) agN)))) (seqS (calS (ckV 5 0) mX5_clear (agC va_rf (getR 3 5 (lvR 0)) agN)) (seqS (calS (ckV 5 0) mX5_clear (agC va_rf (getR 3 6 (lvR 0)) agN)) (seqS (calS (ckV 5 0) mX5_clear (agC va_rf (getR 3 7 (lvR 0)) agN)) retV))))))))
theorem jX3_clear : JS MX3_clear 0 0 0 61 [] bX3_clear :=
  (JS.seq (pc1 := 7) (JS.call (pc1 := 4) (JA.r (JX.getR (pc1 := 1) (c := 3) (k := 0) (i := 12) (JX.al (k := 0) rfl dX3_clear_0) cl3 (by decide) rfl fk3_12 dX3_clear_1) JA.nil) aX5_clear (RunK.V (i := 39) (c := 5) (n := 0) cl5 rfl (CN nX5_clear (by decide) (by decide)) gw418 gw209 gw210 dX3_clear_4)) (JS.seq (pc1 := 14) (JS.call (pc1 := 11) (JA.r (JX.getR (pc1 := 8) (c := 3) (k := 1) (i := 18) (JX.al (k := 0) rfl dX3_clear_7) cl3 (by decide) rfl fk3_18 dX3_clear_8) JA.nil) aX5_clear (RunK.V (i := 39) (c := 5) (n := 0) cl5 rfl (CN nX5_clear (by decide) (by decide)) gw418 gw209 gw210 dX3_clear_11)) (JS.seq (pc1 := 21) (JS.call (pc1 := 18) (JA.r (JX.getR (pc1 := 15) (c := 3) (k := 2) (i := 21) (JX.al (k := 0) rfl dX3_clear_14) cl3 (by decide) rfl fk3_21 dX3_clear_15) JA.nil) aX5_clear (RunK.V (i := 39) (c := 5) (n := 0) cl5 rfl (CN nX5_clear (by decide) (by decide)) gw418 gw209 gw210 dX3_clear_18)) (JS.seq (pc1 := 28) (JS.call (pc1 := 25) (JA.r (JX.getR (pc1 := 22) (c := 3) (k := 3) (i := 24) (JX.al (k := 0) rfl dX3_clear_21) cl3 (by decide) rfl fk3_24 dX3_clear_22) JA.nil) aX5_clear (RunK.V (i := 39) (c := 5) (n := 0) cl5 rfl (CN nX5_clear (by decide) (by decide)) gw418 gw209 gw210 dX3_clear_25)) (JS.seq (pc1 := 39) (JS.call (pc1 := 36) (JA.r (JX.getR (pc1 := 29) (c := 3) (k := 4) (i := 27) (JX.al (k := 0) rfl dX3_clear_28) cl3 (by decide) rfl fk3_27 dX3_clear_29) (JA.i (JX.sp (n := 256) ks256 dX3_clear_32) (JA.i (JX.ic (n := (-1)) rfl dX3_clear_35) JA.nil))) aX5_fill (RunK.V (i := 42) (c := 5) (n := 2) cl5 rfl (CN nX5_fill (by decide) (by decide)) gw419 gw200 gw201 dX3_clear_36)) (JS.seq (pc1 := 46) (JS.call (pc1 := 43) (JA.r (JX.getR (pc1 := 40) (c := 3) (k := 5) (i := 30) (JX.al (k := 0) rfl dX3_clear_39) cl3 (by decide) rfl fk3_30 dX3_clear_40) JA.nil) aX5_clear (RunK.V (i := 39) (c := 5) (n := 0) cl5 rfl (CN nX5_clear (by decide) (by decide)) gw418 gw209 gw210 dX3_clear_43)) (JS.seq (pc1 := 53) (JS.call (pc1 := 50) (JA.r (JX.getR (pc1 := 47) (c := 3) (k := 6) (i := 33) (JX.al (k := 0) rfl dX3_clear_46) cl3 (by decide) rfl fk3_33 dX3_clear_47) JA.nil) aX5_clear (RunK.V (i := 39) (c := 5) (n := 0) cl5 rfl (CN nX5_clear (by decide) (by decide)) gw418 gw209 gw210 dX3_clear_50)) (JS.seq (pc1 := 60) (JS.call (pc1 := 57) (JA.r (JX.getR (pc1 := 54) (c := 3) (k := 7) (i := 36) (JX.al (k := 0) rfl dX3_clear_53) cl3 (by decide) rfl fk3_36 dX3_clear_54) JA.nil) aX5_clear (RunK.V (i := 39) (c := 5) (n := 0) cl5 rfl (CN nX5_clear (by decide) (by decide)) gw418 gw209 gw210 dX3_clear_57)) (JS.retV dX3_clear_60)))))))))
def mX3_clear : MS := runM 1 none bX3_clear
theorem aX3_clear : MA yX3_clear cX3_clear 1 none 4 mX3_clear := MA.of (plainFor_of_name (by decide)) jX3_clear
theorem eX3_clear (a0 : Nat) (h : AH) : mX3_clear [.ref a0] h = (bX3_clear [.val (.ref a0)] h).bind (finM none) := rfl
/-! State.emptyBoxes -/
theorem dX9_emptyBoxes_0 : decode cX9_emptyBoxes 0 = .ok (.aload_n 0, 1) := by decide +kernel
theorem dX9_emptyBoxes_1 : decode cX9_emptyBoxes 1 = .ok (.getfield 12, 3) := by decide +kernel
theorem dX9_emptyBoxes_4 : decode cX9_emptyBoxes 4 = .ok (.invokevirtual 68, 3) := by decide +kernel
theorem dX9_emptyBoxes_7 : decode cX9_emptyBoxes 7 = .ok (.aload_n 0, 1) := by decide +kernel
theorem dX9_emptyBoxes_8 : decode cX9_emptyBoxes 8 = .ok (.getfield 18, 3) := by decide +kernel
theorem dX9_emptyBoxes_11 : decode cX9_emptyBoxes 11 = .ok (.invokevirtual 68, 3) := by decide +kernel
theorem dX9_emptyBoxes_14 : decode cX9_emptyBoxes 14 = .ok (.aload_n 0, 1) := by decide +kernel
theorem dX9_emptyBoxes_15 : decode cX9_emptyBoxes 15 = .ok (.getfield 21, 3) := by decide +kernel
theorem dX9_emptyBoxes_18 : decode cX9_emptyBoxes 18 = .ok (.invokevirtual 68, 3) := by decide +kernel
theorem dX9_emptyBoxes_21 : decode cX9_emptyBoxes 21 = .ok (.aload_n 0, 1) := by decide +kernel
theorem dX9_emptyBoxes_22 : decode cX9_emptyBoxes 22 = .ok (.getfield 24, 3) := by decide +kernel
theorem dX9_emptyBoxes_25 : decode cX9_emptyBoxes 25 = .ok (.invokevirtual 68, 3) := by decide +kernel
theorem dX9_emptyBoxes_28 : decode cX9_emptyBoxes 28 = .ok (.aload_n 0, 1) := by decide +kernel
theorem dX9_emptyBoxes_29 : decode cX9_emptyBoxes 29 = .ok (.getfield 27, 3) := by decide +kernel
theorem dX9_emptyBoxes_32 : decode cX9_emptyBoxes 32 = .ok (.invokevirtual 68, 3) := by decide +kernel
theorem dX9_emptyBoxes_35 : decode cX9_emptyBoxes 35 = .ok (.aload_n 0, 1) := by decide +kernel
theorem dX9_emptyBoxes_36 : decode cX9_emptyBoxes 36 = .ok (.getfield 30, 3) := by decide +kernel
theorem dX9_emptyBoxes_39 : decode cX9_emptyBoxes 39 = .ok (.invokevirtual 68, 3) := by decide +kernel
theorem dX9_emptyBoxes_42 : decode cX9_emptyBoxes 42 = .ok (.aload_n 0, 1) := by decide +kernel
theorem dX9_emptyBoxes_43 : decode cX9_emptyBoxes 43 = .ok (.getfield 33, 3) := by decide +kernel
theorem dX9_emptyBoxes_46 : decode cX9_emptyBoxes 46 = .ok (.invokevirtual 68, 3) := by decide +kernel
theorem dX9_emptyBoxes_49 : decode cX9_emptyBoxes 49 = .ok (.return_, 1) := by decide +kernel
abbrev MX9_emptyBoxes : MI := (RX9, cX9_emptyBoxes, 1, 2, false)
def bX9_emptyBoxes : St := (seqS (calS (ckV 5 0) mX5_clear (agC va_rf (getR 9 0 (lvR 0)) agN)) (seqS (calS (ckV 5 0) mX5_clear (agC va_rf (getR 9 1 (lvR 0)) agN)) (seqS (calS (ckV 5 0) mX5_clear (agC va_rf (getR 9 2 (lvR 0)) agN)) (seqS (calS (ckV 5 0) mX5_clear (agC va_rf (getR 9 3 (lvR 0)) agN)) (seqS (calS (ckV 5 0) mX5_clear (agC va_rf (getR 9 4 (lvR 0)) agN)) (seqS (calS (ckV 5 0) mX5_clear (agC va_rf (getR 9 5 (lvR 0)) agN)) (seqS (calS (ckV 5 0) mX5_clear (agC va_rf (getR 9 6 (lvR 0)) agN)) retV)))))))
theorem jX9_emptyBoxes : JS MX9_emptyBoxes 0 0 0 50 [] bX9_emptyBoxes :=
  (JS.seq (pc1 := 7) (JS.call (pc1 := 4) (JA.r (JX.getR (pc1 := 1) (c := 9) (k := 0) (i := 12) (JX.al (k := 0) rfl dX9_emptyBoxes_0) cl9 (by decide) rfl fk9_12 dX9_emptyBoxes_1) JA.nil) aX5_clear (RunK.V (i := 68) (c := 5) (n := 0) cl5 rfl (CN nX5_clear (by decide) (by decide)) gw429 gw209 gw210 dX9_emptyBoxes_4)) (JS.seq (pc1 := 14) (JS.call (pc1 := 11) (JA.r (JX.getR (pc1 := 8) (c := 9) (k := 1) (i := 18) (JX.al (k := 0) rfl dX9_emptyBoxes_7) cl9 (by decide) rfl fk9_18 dX9_emptyBoxes_8) JA.nil) aX5_clear (RunK.V (i := 68) (c := 5) (n := 0) cl5 rfl (CN nX5_clear (by decide) (by decide)) gw429 gw209 gw210 dX9_emptyBoxes_11)) (JS.seq (pc1 := 21) (JS.call (pc1 := 18) (JA.r (JX.getR (pc1 := 15) (c := 9) (k := 2) (i := 21) (JX.al (k := 0) rfl dX9_emptyBoxes_14) cl9 (by decide) rfl fk9_21 dX9_emptyBoxes_15) JA.nil) aX5_clear (RunK.V (i := 68) (c := 5) (n := 0) cl5 rfl (CN nX5_clear (by decide) (by decide)) gw429 gw209 gw210 dX9_emptyBoxes_18)) (JS.seq (pc1 := 28) (JS.call (pc1 := 25) (JA.r (JX.getR (pc1 := 22) (c := 9) (k := 3) (i := 24) (JX.al (k := 0) rfl dX9_emptyBoxes_21) cl9 (by decide) rfl fk9_24 dX9_emptyBoxes_22) JA.nil) aX5_clear (RunK.V (i := 68) (c := 5) (n := 0) cl5 rfl (CN nX5_clear (by decide) (by decide)) gw429 gw209 gw210 dX9_emptyBoxes_25)) (JS.seq (pc1 := 35) (JS.call (pc1 := 32) (JA.r (JX.getR (pc1 := 29) (c := 9) (k := 4) (i := 27) (JX.al (k := 0) rfl dX9_emptyBoxes_28) cl9 (by decide) rfl fk9_27 dX9_emptyBoxes_29) JA.nil) aX5_clear (RunK.V (i := 68) (c := 5) (n := 0) cl5 rfl (CN nX5_clear (by decide) (by decide)) gw429 gw209 gw210 dX9_emptyBoxes_32)) (JS.seq (pc1 := 42) (JS.call (pc1 := 39) (JA.r (JX.getR (pc1 := 36) (c := 9) (k := 5) (i := 30) (JX.al (k := 0) rfl dX9_emptyBoxes_35) cl9 (by decide) rfl fk9_30 dX9_emptyBoxes_36) JA.nil) aX5_clear (RunK.V (i := 68) (c := 5) (n := 0) cl5 rfl (CN nX5_clear (by decide) (by decide)) gw429 gw209 gw210 dX9_emptyBoxes_39)) (JS.seq (pc1 := 49) (JS.call (pc1 := 46) (JA.r (JX.getR (pc1 := 43) (c := 9) (k := 6) (i := 33) (JX.al (k := 0) rfl dX9_emptyBoxes_42) cl9 (by decide) rfl fk9_33 dX9_emptyBoxes_43) JA.nil) aX5_clear (RunK.V (i := 68) (c := 5) (n := 0) cl5 rfl (CN nX5_clear (by decide) (by decide)) gw429 gw209 gw210 dX9_emptyBoxes_46)) (JS.retV dX9_emptyBoxes_49))))))))
def mX9_emptyBoxes : MS := runM 1 none bX9_emptyBoxes
theorem aX9_emptyBoxes : MA yX9_emptyBoxes cX9_emptyBoxes 1 none 2 mX9_emptyBoxes := MA.of (plainFor_of_name (by decide)) jX9_emptyBoxes
theorem eX9_emptyBoxes (a0 : Nat) (h : AH) : mX9_emptyBoxes [.ref a0] h = (bX9_emptyBoxes [.val (.ref a0)] h).bind (finM none) := rfl
/-! State.begin -/
theorem dX9_begin_0 : decode cX9_begin 0 = .ok (.aload_n 0, 1) := by decide +kernel
theorem dX9_begin_1 : decode cX9_begin 1 = .ok (.invokevirtual 61, 3) := by decide +kernel
theorem dX9_begin_4 : decode cX9_begin 4 = .ok (.aload_n 0, 1) := by decide +kernel
theorem dX9_begin_5 : decode cX9_begin 5 = .ok (.getfield 36, 3) := by decide +kernel
theorem dX9_begin_8 : decode cX9_begin 8 = .ok (.bipush 12, 2) := by decide +kernel
theorem dX9_begin_10 : decode cX9_begin 10 = .ok (.iconst 0, 1) := by decide +kernel
theorem dX9_begin_11 : decode cX9_begin 11 = .ok (.invokevirtual 64, 3) := by decide +kernel
theorem dX9_begin_14 : decode cX9_begin 14 = .ok (.aload_n 0, 1) := by decide +kernel
theorem dX9_begin_15 : decode cX9_begin 15 = .ok (.getfield 39, 3) := by decide +kernel
theorem dX9_begin_18 : decode cX9_begin 18 = .ok (.bipush 12, 2) := by decide +kernel
theorem dX9_begin_20 : decode cX9_begin 20 = .ok (.iconst 0, 1) := by decide +kernel
theorem dX9_begin_21 : decode cX9_begin 21 = .ok (.invokevirtual 64, 3) := by decide +kernel
theorem dX9_begin_24 : decode cX9_begin 24 = .ok (.aload_n 0, 1) := by decide +kernel
theorem dX9_begin_25 : decode cX9_begin 25 = .ok (.getfield 42, 3) := by decide +kernel
theorem dX9_begin_28 : decode cX9_begin 28 = .ok (.bipush 12, 2) := by decide +kernel
theorem dX9_begin_30 : decode cX9_begin 30 = .ok (.iconst 0, 1) := by decide +kernel
theorem dX9_begin_31 : decode cX9_begin 31 = .ok (.invokevirtual 64, 3) := by decide +kernel
theorem dX9_begin_34 : decode cX9_begin 34 = .ok (.aload_n 0, 1) := by decide +kernel
theorem dX9_begin_35 : decode cX9_begin 35 = .ok (.iconst 0, 1) := by decide +kernel
theorem dX9_begin_36 : decode cX9_begin 36 = .ok (.putfield 45, 3) := by decide +kernel
theorem dX9_begin_39 : decode cX9_begin 39 = .ok (.aload_n 0, 1) := by decide +kernel
theorem dX9_begin_40 : decode cX9_begin 40 = .ok (.iconst 0, 1) := by decide +kernel
theorem dX9_begin_41 : decode cX9_begin 41 = .ok (.putfield 49, 3) := by decide +kernel
theorem dX9_begin_44 : decode cX9_begin 44 = .ok (.aload_n 0, 1) := by decide +kernel
theorem dX9_begin_45 : decode cX9_begin 45 = .ok (.iconst 0, 1) := by decide +kernel
theorem dX9_begin_46 : decode cX9_begin 46 = .ok (.putfield 52, 3) := by decide +kernel
theorem dX9_begin_49 : decode cX9_begin 49 = .ok (.aload_n 0, 1) := by decide +kernel
theorem dX9_begin_50 : decode cX9_begin 50 = .ok (.iconst 0, 1) := by decide +kernel
theorem dX9_begin_51 : decode cX9_begin 51 = .ok (.putfield 55, 3) := by decide +kernel
theorem dX9_begin_54 : decode cX9_begin 54 = .ok (.aload_n 0, 1) := by decide +kernel
theorem dX9_begin_55 : decode cX9_begin 55 = .ok (.iconst 0, 1) := by decide +kernel
theorem dX9_begin_56 : decode cX9_begin 56 = .ok (.putfield 58, 3) := by decide +kernel
theorem dX9_begin_59 : decode cX9_begin 59 = .ok (.return_, 1) := by decide +kernel
abbrev MX9_begin : MI := (RX9, cX9_begin, 1, 4, false)
def bX9_begin : St := (seqS (calS (ckV 9 0) mX9_emptyBoxes (agC va_rf (lvR 0) agN)) (seqS (calS (ckV 5 2) mX5_fill (agC va_rf (getR 9 7 (lvR 0)) (agC Value.int (ciI (iI 12)) (agC Value.int (ciI (iI 0)) agN)))) (seqS (calS (ckV 5 2) mX5_fill (agC va_rf (getR 9 8 (lvR 0)) (agC Value.int (ciI (iI 12)) (agC Value.int (ciI (iI 0)) agN)))) (seqS (calS (ckV 5 2) mX5_fill (agC va_rf (getR 9 9 (lvR 0)) (agC Value.int (ciI (iI 12)) (agC Value.int (ciI (iI 0)) agN)))) (seqS (putI 9 10 (lvR 0) (ciI (iI 0))) (seqS (putI 9 11 (lvR 0) (ciI (iI 0))) (seqS (putI 9 12 (lvR 0) (ciI (iI 0))) (seqS (putI 9 13 (lvR 0) (ciI (iI 0))) (seqS (putI 9 14 (lvR 0) (ciI (iI 0))) retV)))))))))
theorem jX9_begin : JS MX9_begin 0 0 0 60 [] bX9_begin :=
  (JS.seq (pc1 := 4) (JS.call (pc1 := 1) (JA.r (JX.al (k := 0) rfl dX9_begin_0) JA.nil) aX9_emptyBoxes (RunK.V (i := 61) (c := 9) (n := 0) cl9 rfl (CN nX9_emptyBoxes (by decide) (by decide)) gw425 gw426 gw427 dX9_begin_1)) (JS.seq (pc1 := 14) (JS.call (pc1 := 11) (JA.r (JX.getR (pc1 := 5) (c := 9) (k := 7) (i := 36) (JX.al (k := 0) rfl dX9_begin_4) cl9 (by decide) rfl fk9_36 dX9_begin_5) (JA.i (JX.bp (n := 12) kb12 dX9_begin_8) (JA.i (JX.ic (n := 0) rfl dX9_begin_10) JA.nil))) aX5_fill (RunK.V (i := 64) (c := 5) (n := 2) cl5 rfl (CN nX5_fill (by decide) (by decide)) gw430 gw200 gw201 dX9_begin_11)) (JS.seq (pc1 := 24) (JS.call (pc1 := 21) (JA.r (JX.getR (pc1 := 15) (c := 9) (k := 8) (i := 39) (JX.al (k := 0) rfl dX9_begin_14) cl9 (by decide) rfl fk9_39 dX9_begin_15) (JA.i (JX.bp (n := 12) kb12 dX9_begin_18) (JA.i (JX.ic (n := 0) rfl dX9_begin_20) JA.nil))) aX5_fill (RunK.V (i := 64) (c := 5) (n := 2) cl5 rfl (CN nX5_fill (by decide) (by decide)) gw430 gw200 gw201 dX9_begin_21)) (JS.seq (pc1 := 34) (JS.call (pc1 := 31) (JA.r (JX.getR (pc1 := 25) (c := 9) (k := 9) (i := 42) (JX.al (k := 0) rfl dX9_begin_24) cl9 (by decide) rfl fk9_42 dX9_begin_25) (JA.i (JX.bp (n := 12) kb12 dX9_begin_28) (JA.i (JX.ic (n := 0) rfl dX9_begin_30) JA.nil))) aX5_fill (RunK.V (i := 64) (c := 5) (n := 2) cl5 rfl (CN nX5_fill (by decide) (by decide)) gw430 gw200 gw201 dX9_begin_31)) (JS.seq (pc1 := 39) (JS.pI (pc1 := 35) (pc2 := 36) (c := 9) (k := 10) (i := 45) (JX.al (k := 0) rfl dX9_begin_34) (JX.ic (n := 0) rfl dX9_begin_35) cl9 (by decide) rfl fk9_45 (Or.inl rfl) dX9_begin_36) (JS.seq (pc1 := 44) (JS.pI (pc1 := 40) (pc2 := 41) (c := 9) (k := 11) (i := 49) (JX.al (k := 0) rfl dX9_begin_39) (JX.ic (n := 0) rfl dX9_begin_40) cl9 (by decide) rfl fk9_49 (Or.inl rfl) dX9_begin_41) (JS.seq (pc1 := 49) (JS.pI (pc1 := 45) (pc2 := 46) (c := 9) (k := 12) (i := 52) (JX.al (k := 0) rfl dX9_begin_44) (JX.ic (n := 0) rfl dX9_begin_45) cl9 (by decide) rfl fk9_52 (Or.inl rfl) dX9_begin_46) (JS.seq (pc1 := 54) (JS.pI (pc1 := 50) (pc2 := 51) (c := 9) (k := 13) (i := 55) (JX.al (k := 0) rfl dX9_begin_49) (JX.ic (n := 0) rfl dX9_begin_50) cl9 (by decide) rfl fk9_55 (Or.inl rfl) dX9_begin_51) (JS.seq (pc1 := 59) (JS.pI (pc1 := 55) (pc2 := 56) (c := 9) (k := 14) (i := 58) (JX.al (k := 0) rfl dX9_begin_54) (JX.ic (n := 0) rfl dX9_begin_55) cl9 (by decide) rfl fk9_58 (Or.inl rfl) dX9_begin_56) (JS.retV dX9_begin_59))))))))))
def mX9_begin : MS := runM 1 none bX9_begin
theorem aX9_begin : MA yX9_begin cX9_begin 1 none 4 mX9_begin := MA.of (plainFor_of_name (by decide)) jX9_begin
theorem eX9_begin (a0 : Nat) (h : AH) : mX9_begin [.ref a0] h = (bX9_begin [.val (.ref a0)] h).bind (finM none) := rfl
/-! Vault.begin -/
theorem dX10_begin_0 : decode cX10_begin 0 = .ok (.aload_n 0, 1) := by decide +kernel
theorem dX10_begin_1 : decode cX10_begin 1 = .ok (.aload_n 1, 1) := by decide +kernel
theorem dX10_begin_2 : decode cX10_begin 2 = .ok (.putfield 12, 3) := by decide +kernel
theorem dX10_begin_5 : decode cX10_begin 5 = .ok (.aload_n 0, 1) := by decide +kernel
theorem dX10_begin_6 : decode cX10_begin 6 = .ok (.getfield 28, 3) := by decide +kernel
theorem dX10_begin_9 : decode cX10_begin 9 = .ok (.invokevirtual 98, 3) := by decide +kernel
theorem dX10_begin_12 : decode cX10_begin 12 = .ok (.aload_n 0, 1) := by decide +kernel
theorem dX10_begin_13 : decode cX10_begin 13 = .ok (.getfield 42, 3) := by decide +kernel
theorem dX10_begin_16 : decode cX10_begin 16 = .ok (.invokevirtual 101, 3) := by decide +kernel
theorem dX10_begin_19 : decode cX10_begin 19 = .ok (.aload_n 0, 1) := by decide +kernel
theorem dX10_begin_20 : decode cX10_begin 20 = .ok (.getfield 46, 3) := by decide +kernel
theorem dX10_begin_23 : decode cX10_begin 23 = .ok (.invokevirtual 101, 3) := by decide +kernel
theorem dX10_begin_26 : decode cX10_begin 26 = .ok (.aload_n 0, 1) := by decide +kernel
theorem dX10_begin_27 : decode cX10_begin 27 = .ok (.getfield 49, 3) := by decide +kernel
theorem dX10_begin_30 : decode cX10_begin 30 = .ok (.invokevirtual 101, 3) := by decide +kernel
theorem dX10_begin_33 : decode cX10_begin 33 = .ok (.aload_n 0, 1) := by decide +kernel
theorem dX10_begin_34 : decode cX10_begin 34 = .ok (.getfield 35, 3) := by decide +kernel
theorem dX10_begin_37 : decode cX10_begin 37 = .ok (.getfield 102, 3) := by decide +kernel
theorem dX10_begin_40 : decode cX10_begin 40 = .ok (.invokevirtual 101, 3) := by decide +kernel
theorem dX10_begin_43 : decode cX10_begin 43 = .ok (.aload_n 0, 1) := by decide +kernel
theorem dX10_begin_44 : decode cX10_begin 44 = .ok (.getfield 52, 3) := by decide +kernel
theorem dX10_begin_47 : decode cX10_begin 47 = .ok (.invokevirtual 101, 3) := by decide +kernel
theorem dX10_begin_50 : decode cX10_begin 50 = .ok (.aload_n 0, 1) := by decide +kernel
theorem dX10_begin_51 : decode cX10_begin 51 = .ok (.getfield 64, 3) := by decide +kernel
theorem dX10_begin_54 : decode cX10_begin 54 = .ok (.invokevirtual 105, 3) := by decide +kernel
theorem dX10_begin_57 : decode cX10_begin 57 = .ok (.aload_n 0, 1) := by decide +kernel
theorem dX10_begin_58 : decode cX10_begin 58 = .ok (.iconst 0, 1) := by decide +kernel
theorem dX10_begin_59 : decode cX10_begin 59 = .ok (.putfield 75, 3) := by decide +kernel
theorem dX10_begin_62 : decode cX10_begin 62 = .ok (.aload_n 0, 1) := by decide +kernel
theorem dX10_begin_63 : decode cX10_begin 63 = .ok (.iconst 0, 1) := by decide +kernel
theorem dX10_begin_64 : decode cX10_begin 64 = .ok (.putfield 79, 3) := by decide +kernel
theorem dX10_begin_67 : decode cX10_begin 67 = .ok (.aload_n 0, 1) := by decide +kernel
theorem dX10_begin_68 : decode cX10_begin 68 = .ok (.getfield 85, 3) := by decide +kernel
theorem dX10_begin_71 : decode cX10_begin 71 = .ok (.bipush 64, 2) := by decide +kernel
theorem dX10_begin_73 : decode cX10_begin 73 = .ok (.iconst 0, 1) := by decide +kernel
theorem dX10_begin_74 : decode cX10_begin 74 = .ok (.invokevirtual 107, 3) := by decide +kernel
theorem dX10_begin_77 : decode cX10_begin 77 = .ok (.aload_n 0, 1) := by decide +kernel
theorem dX10_begin_78 : decode cX10_begin 78 = .ok (.getfield 88, 3) := by decide +kernel
theorem dX10_begin_81 : decode cX10_begin 81 = .ok (.bipush 64, 2) := by decide +kernel
theorem dX10_begin_83 : decode cX10_begin 83 = .ok (.iconst 0, 1) := by decide +kernel
theorem dX10_begin_84 : decode cX10_begin 84 = .ok (.invokevirtual 107, 3) := by decide +kernel
theorem dX10_begin_87 : decode cX10_begin 87 = .ok (.aload_n 0, 1) := by decide +kernel
theorem dX10_begin_88 : decode cX10_begin 88 = .ok (.getfield 91, 3) := by decide +kernel
theorem dX10_begin_91 : decode cX10_begin 91 = .ok (.bipush 64, 2) := by decide +kernel
theorem dX10_begin_93 : decode cX10_begin 93 = .ok (.iconst 0, 1) := by decide +kernel
theorem dX10_begin_94 : decode cX10_begin 94 = .ok (.invokevirtual 107, 3) := by decide +kernel
theorem dX10_begin_97 : decode cX10_begin 97 = .ok (.return_, 1) := by decide +kernel
abbrev MX10_begin : MI := (RX10, cX10_begin, 2, 5, false)
def bX10_begin : St := (seqS (putR 10 0 (lvR 0) (lvR 1)) (seqS (calS (ckV 3 0) mX3_clear (agC va_rf (getR 10 2 (lvR 0)) agN)) (seqS (calS (ckV 5 0) mX5_clear (agC va_rf (getR 10 4 (lvR 0)) agN)) (seqS (calS (ckV 5 0) mX5_clear (agC va_rf (getR 10 5 (lvR 0)) agN)) (seqS (calS (ckV 5 0) mX5_clear (agC va_rf (getR 10 6 (lvR 0)) agN)) (seqS (calS (ckV 5 0) mX5_clear (agC va_rf (getR 7 0 (getR 10 3 (lvR 0))) agN)) (seqS (calS (ckV 5 0) mX5_clear (agC va_rf (getR 10 7 (lvR 0)) agN)) (seqS (calS (ckV 9 0) mX9_begin (agC va_rf (getR 10 10 (lvR 0)) agN)) (seqS (putI 10 13 (lvR 0) (ciI (iI 0))) (seqS (putI 10 14 (lvR 0) (ciI (iI 0))) (seqS (calS (ckV 5 2) mX5_fill (agC va_rf (getR 10 16 (lvR 0)) (agC Value.int (ciI (iI 64)) (agC Value.int (ciI (iI 0)) agN)))) (seqS (calS (ckV 5 2) mX5_fill (agC va_rf (getR 10 17 (lvR 0)) (agC Value.int (ciI (iI 64)) (agC Value.int (ciI (iI 0)) agN)))) (seqS (calS (ckV 5 2) mX5_fill (agC va_rf (getR 10 18 (lvR 0)) (agC Value.int (ciI (iI 64)) (agC Value.int (ciI (iI 0)) agN)))) retV)))))))))))))
theorem jX10_begin : JS MX10_begin 0 0 0 98 [] bX10_begin :=
  (JS.seq (pc1 := 5) (JS.pR (pc1 := 1) (pc2 := 2) (c := 10) (k := 0) (i := 12) (JX.al (k := 0) rfl dX10_begin_0) (JX.al (k := 1) rfl dX10_begin_1) cl10 (by decide) (Or.inl ⟨_, rfl⟩) fk10_12 (Or.inl rfl) dX10_begin_2) (JS.seq (pc1 := 12) (JS.call (pc1 := 9) (JA.r (JX.getR (pc1 := 6) (c := 10) (k := 2) (i := 28) (JX.al (k := 0) rfl dX10_begin_5) cl10 (by decide) rfl fk10_28 dX10_begin_6) JA.nil) aX3_clear (RunK.V (i := 98) (c := 3) (n := 0) cl3 rfl (CN nX3_clear (by decide) (by decide)) gw414 gw415 gw416 dX10_begin_9)) (JS.seq (pc1 := 19) (JS.call (pc1 := 16) (JA.r (JX.getR (pc1 := 13) (c := 10) (k := 4) (i := 42) (JX.al (k := 0) rfl dX10_begin_12) cl10 (by decide) rfl fk10_42 dX10_begin_13) JA.nil) aX5_clear (RunK.V (i := 101) (c := 5) (n := 0) cl5 rfl (CN nX5_clear (by decide) (by decide)) gw420 gw209 gw210 dX10_begin_16)) (JS.seq (pc1 := 26) (JS.call (pc1 := 23) (JA.r (JX.getR (pc1 := 20) (c := 10) (k := 5) (i := 46) (JX.al (k := 0) rfl dX10_begin_19) cl10 (by decide) rfl fk10_46 dX10_begin_20) JA.nil) aX5_clear (RunK.V (i := 101) (c := 5) (n := 0) cl5 rfl (CN nX5_clear (by decide) (by decide)) gw420 gw209 gw210 dX10_begin_23)) (JS.seq (pc1 := 33) (JS.call (pc1 := 30) (JA.r (JX.getR (pc1 := 27) (c := 10) (k := 6) (i := 49) (JX.al (k := 0) rfl dX10_begin_26) cl10 (by decide) rfl fk10_49 dX10_begin_27) JA.nil) aX5_clear (RunK.V (i := 101) (c := 5) (n := 0) cl5 rfl (CN nX5_clear (by decide) (by decide)) gw420 gw209 gw210 dX10_begin_30)) (JS.seq (pc1 := 43) (JS.call (pc1 := 40) (JA.r (JX.getR (pc1 := 37) (c := 7) (k := 0) (i := 102) (JX.getR (pc1 := 34) (c := 10) (k := 3) (i := 35) (JX.al (k := 0) rfl dX10_begin_33) cl10 (by decide) rfl fk10_35 dX10_begin_34) cl7 (by decide) rfl fk10_102 dX10_begin_37) JA.nil) aX5_clear (RunK.V (i := 101) (c := 5) (n := 0) cl5 rfl (CN nX5_clear (by decide) (by decide)) gw420 gw209 gw210 dX10_begin_40)) (JS.seq (pc1 := 50) (JS.call (pc1 := 47) (JA.r (JX.getR (pc1 := 44) (c := 10) (k := 7) (i := 52) (JX.al (k := 0) rfl dX10_begin_43) cl10 (by decide) rfl fk10_52 dX10_begin_44) JA.nil) aX5_clear (RunK.V (i := 101) (c := 5) (n := 0) cl5 rfl (CN nX5_clear (by decide) (by decide)) gw420 gw209 gw210 dX10_begin_47)) (JS.seq (pc1 := 57) (JS.call (pc1 := 54) (JA.r (JX.getR (pc1 := 51) (c := 10) (k := 10) (i := 64) (JX.al (k := 0) rfl dX10_begin_50) cl10 (by decide) rfl fk10_64 dX10_begin_51) JA.nil) aX9_begin (RunK.V (i := 105) (c := 9) (n := 0) cl9 rfl (CN nX9_begin (by decide) (by decide)) gw421 gw422 gw423 dX10_begin_54)) (JS.seq (pc1 := 62) (JS.pI (pc1 := 58) (pc2 := 59) (c := 10) (k := 13) (i := 75) (JX.al (k := 0) rfl dX10_begin_57) (JX.ic (n := 0) rfl dX10_begin_58) cl10 (by decide) rfl fk10_75 (Or.inl rfl) dX10_begin_59) (JS.seq (pc1 := 67) (JS.pI (pc1 := 63) (pc2 := 64) (c := 10) (k := 14) (i := 79) (JX.al (k := 0) rfl dX10_begin_62) (JX.ic (n := 0) rfl dX10_begin_63) cl10 (by decide) rfl fk10_79 (Or.inl rfl) dX10_begin_64) (JS.seq (pc1 := 77) (JS.call (pc1 := 74) (JA.r (JX.getR (pc1 := 68) (c := 10) (k := 16) (i := 85) (JX.al (k := 0) rfl dX10_begin_67) cl10 (by decide) rfl fk10_85 dX10_begin_68) (JA.i (JX.bp (n := 64) kb64 dX10_begin_71) (JA.i (JX.ic (n := 0) rfl dX10_begin_73) JA.nil))) aX5_fill (RunK.V (i := 107) (c := 5) (n := 2) cl5 rfl (CN nX5_fill (by decide) (by decide)) gw431 gw200 gw201 dX10_begin_74)) (JS.seq (pc1 := 87) (JS.call (pc1 := 84) (JA.r (JX.getR (pc1 := 78) (c := 10) (k := 17) (i := 88) (JX.al (k := 0) rfl dX10_begin_77) cl10 (by decide) rfl fk10_88 dX10_begin_78) (JA.i (JX.bp (n := 64) kb64 dX10_begin_81) (JA.i (JX.ic (n := 0) rfl dX10_begin_83) JA.nil))) aX5_fill (RunK.V (i := 107) (c := 5) (n := 2) cl5 rfl (CN nX5_fill (by decide) (by decide)) gw431 gw200 gw201 dX10_begin_84)) (JS.seq (pc1 := 97) (JS.call (pc1 := 94) (JA.r (JX.getR (pc1 := 88) (c := 10) (k := 18) (i := 91) (JX.al (k := 0) rfl dX10_begin_87) cl10 (by decide) rfl fk10_91 dX10_begin_88) (JA.i (JX.bp (n := 64) kb64 dX10_begin_91) (JA.i (JX.ic (n := 0) rfl dX10_begin_93) JA.nil))) aX5_fill (RunK.V (i := 107) (c := 5) (n := 2) cl5 rfl (CN nX5_fill (by decide) (by decide)) gw431 gw200 gw201 dX10_begin_94)) (JS.retV dX10_begin_97))))))))))))))
def mX10_begin : MS := runM 2 none bX10_begin
theorem aX10_begin : MA yX10_begin cX10_begin 2 none 5 mX10_begin := MA.of (plainFor_of_name (by decide)) jX10_begin
theorem eX10_begin (a0 : Nat) (a1 : Nat) (h : AH) : mX10_begin [.ref a0, .ref a1] h = (bX10_begin [.val (.ref a0), .val (.ref a1)] h).bind (finM none) := rfl
/-! Vault.<init> -/
theorem dX10_init_0 : decode cX10_init 0 = .ok (.aload_n 0, 1) := by decide +kernel
theorem dX10_init_1 : decode cX10_init 1 = .ok (.invokespecial 3, 3) := by decide +kernel
theorem dX10_init_4 : decode cX10_init 4 = .ok (.aload_n 0, 1) := by decide +kernel
theorem dX10_init_5 : decode cX10_init 5 = .ok (.new 9, 3) := by decide +kernel
theorem dX10_init_8 : decode cX10_init 8 = .ok (.dup, 1) := by decide +kernel
theorem dX10_init_9 : decode cX10_init 9 = .ok (.invokespecial 11, 3) := by decide +kernel
theorem dX10_init_12 : decode cX10_init 12 = .ok (.putfield 12, 3) := by decide +kernel
theorem dX10_init_15 : decode cX10_init 15 = .ok (.aload_n 0, 1) := by decide +kernel
theorem dX10_init_16 : decode cX10_init 16 = .ok (.new 18, 3) := by decide +kernel
theorem dX10_init_19 : decode cX10_init 19 = .ok (.dup, 1) := by decide +kernel
theorem dX10_init_20 : decode cX10_init 20 = .ok (.invokespecial 20, 3) := by decide +kernel
theorem dX10_init_23 : decode cX10_init 23 = .ok (.putfield 21, 3) := by decide +kernel
theorem dX10_init_26 : decode cX10_init 26 = .ok (.aload_n 0, 1) := by decide +kernel
theorem dX10_init_27 : decode cX10_init 27 = .ok (.new 25, 3) := by decide +kernel
theorem dX10_init_30 : decode cX10_init 30 = .ok (.dup, 1) := by decide +kernel
theorem dX10_init_31 : decode cX10_init 31 = .ok (.invokespecial 27, 3) := by decide +kernel
theorem dX10_init_34 : decode cX10_init 34 = .ok (.putfield 28, 3) := by decide +kernel
theorem dX10_init_37 : decode cX10_init 37 = .ok (.aload_n 0, 1) := by decide +kernel
theorem dX10_init_38 : decode cX10_init 38 = .ok (.new 32, 3) := by decide +kernel
theorem dX10_init_41 : decode cX10_init 41 = .ok (.dup, 1) := by decide +kernel
theorem dX10_init_42 : decode cX10_init 42 = .ok (.invokespecial 34, 3) := by decide +kernel
theorem dX10_init_45 : decode cX10_init 45 = .ok (.putfield 35, 3) := by decide +kernel
theorem dX10_init_48 : decode cX10_init 48 = .ok (.aload_n 0, 1) := by decide +kernel
theorem dX10_init_49 : decode cX10_init 49 = .ok (.new 39, 3) := by decide +kernel
theorem dX10_init_52 : decode cX10_init 52 = .ok (.dup, 1) := by decide +kernel
theorem dX10_init_53 : decode cX10_init 53 = .ok (.invokespecial 41, 3) := by decide +kernel
theorem dX10_init_56 : decode cX10_init 56 = .ok (.putfield 42, 3) := by decide +kernel
theorem dX10_init_59 : decode cX10_init 59 = .ok (.aload_n 0, 1) := by decide +kernel
theorem dX10_init_60 : decode cX10_init 60 = .ok (.new 39, 3) := by decide +kernel
theorem dX10_init_63 : decode cX10_init 63 = .ok (.dup, 1) := by decide +kernel
theorem dX10_init_64 : decode cX10_init 64 = .ok (.invokespecial 41, 3) := by decide +kernel
theorem dX10_init_67 : decode cX10_init 67 = .ok (.putfield 46, 3) := by decide +kernel
theorem dX10_init_70 : decode cX10_init 70 = .ok (.aload_n 0, 1) := by decide +kernel
theorem dX10_init_71 : decode cX10_init 71 = .ok (.new 39, 3) := by decide +kernel
theorem dX10_init_74 : decode cX10_init 74 = .ok (.dup, 1) := by decide +kernel
theorem dX10_init_75 : decode cX10_init 75 = .ok (.invokespecial 41, 3) := by decide +kernel
theorem dX10_init_78 : decode cX10_init 78 = .ok (.putfield 49, 3) := by decide +kernel
theorem dX10_init_81 : decode cX10_init 81 = .ok (.aload_n 0, 1) := by decide +kernel
theorem dX10_init_82 : decode cX10_init 82 = .ok (.new 39, 3) := by decide +kernel
theorem dX10_init_85 : decode cX10_init 85 = .ok (.dup, 1) := by decide +kernel
theorem dX10_init_86 : decode cX10_init 86 = .ok (.invokespecial 41, 3) := by decide +kernel
theorem dX10_init_89 : decode cX10_init 89 = .ok (.putfield 52, 3) := by decide +kernel
theorem dX10_init_92 : decode cX10_init 92 = .ok (.aload_n 0, 1) := by decide +kernel
theorem dX10_init_93 : decode cX10_init 93 = .ok (.new 39, 3) := by decide +kernel
theorem dX10_init_96 : decode cX10_init 96 = .ok (.dup, 1) := by decide +kernel
theorem dX10_init_97 : decode cX10_init 97 = .ok (.invokespecial 41, 3) := by decide +kernel
theorem dX10_init_100 : decode cX10_init 100 = .ok (.putfield 55, 3) := by decide +kernel
theorem dX10_init_103 : decode cX10_init 103 = .ok (.aload_n 0, 1) := by decide +kernel
theorem dX10_init_104 : decode cX10_init 104 = .ok (.new 39, 3) := by decide +kernel
theorem dX10_init_107 : decode cX10_init 107 = .ok (.dup, 1) := by decide +kernel
theorem dX10_init_108 : decode cX10_init 108 = .ok (.invokespecial 41, 3) := by decide +kernel
theorem dX10_init_111 : decode cX10_init 111 = .ok (.putfield 58, 3) := by decide +kernel
theorem dX10_init_114 : decode cX10_init 114 = .ok (.aload_n 0, 1) := by decide +kernel
theorem dX10_init_115 : decode cX10_init 115 = .ok (.new 61, 3) := by decide +kernel
theorem dX10_init_118 : decode cX10_init 118 = .ok (.dup, 1) := by decide +kernel
theorem dX10_init_119 : decode cX10_init 119 = .ok (.invokespecial 63, 3) := by decide +kernel
theorem dX10_init_122 : decode cX10_init 122 = .ok (.putfield 64, 3) := by decide +kernel
theorem dX10_init_125 : decode cX10_init 125 = .ok (.aload_n 0, 1) := by decide +kernel
theorem dX10_init_126 : decode cX10_init 126 = .ok (.new 61, 3) := by decide +kernel
theorem dX10_init_129 : decode cX10_init 129 = .ok (.dup, 1) := by decide +kernel
theorem dX10_init_130 : decode cX10_init 130 = .ok (.invokespecial 63, 3) := by decide +kernel
theorem dX10_init_133 : decode cX10_init 133 = .ok (.putfield 68, 3) := by decide +kernel
theorem dX10_init_136 : decode cX10_init 136 = .ok (.aload_n 0, 1) := by decide +kernel
theorem dX10_init_137 : decode cX10_init 137 = .ok (.bipush 20, 2) := by decide +kernel
theorem dX10_init_139 : decode cX10_init 139 = .ok (.anewarray 61, 3) := by decide +kernel
theorem dX10_init_142 : decode cX10_init 142 = .ok (.putfield 71, 3) := by decide +kernel
theorem dX10_init_145 : decode cX10_init 145 = .ok (.aload_n 0, 1) := by decide +kernel
theorem dX10_init_146 : decode cX10_init 146 = .ok (.iconst 0, 1) := by decide +kernel
theorem dX10_init_147 : decode cX10_init 147 = .ok (.putfield 75, 3) := by decide +kernel
theorem dX10_init_150 : decode cX10_init 150 = .ok (.aload_n 0, 1) := by decide +kernel
theorem dX10_init_151 : decode cX10_init 151 = .ok (.iconst 0, 1) := by decide +kernel
theorem dX10_init_152 : decode cX10_init 152 = .ok (.putfield 79, 3) := by decide +kernel
theorem dX10_init_155 : decode cX10_init 155 = .ok (.aload_n 0, 1) := by decide +kernel
theorem dX10_init_156 : decode cX10_init 156 = .ok (.iconst 1, 1) := by decide +kernel
theorem dX10_init_157 : decode cX10_init 157 = .ok (.putfield 82, 3) := by decide +kernel
theorem dX10_init_160 : decode cX10_init 160 = .ok (.aload_n 0, 1) := by decide +kernel
theorem dX10_init_161 : decode cX10_init 161 = .ok (.new 39, 3) := by decide +kernel
theorem dX10_init_164 : decode cX10_init 164 = .ok (.dup, 1) := by decide +kernel
theorem dX10_init_165 : decode cX10_init 165 = .ok (.invokespecial 41, 3) := by decide +kernel
theorem dX10_init_168 : decode cX10_init 168 = .ok (.putfield 85, 3) := by decide +kernel
theorem dX10_init_171 : decode cX10_init 171 = .ok (.aload_n 0, 1) := by decide +kernel
theorem dX10_init_172 : decode cX10_init 172 = .ok (.new 39, 3) := by decide +kernel
theorem dX10_init_175 : decode cX10_init 175 = .ok (.dup, 1) := by decide +kernel
theorem dX10_init_176 : decode cX10_init 176 = .ok (.invokespecial 41, 3) := by decide +kernel
theorem dX10_init_179 : decode cX10_init 179 = .ok (.putfield 88, 3) := by decide +kernel
theorem dX10_init_182 : decode cX10_init 182 = .ok (.aload_n 0, 1) := by decide +kernel
theorem dX10_init_183 : decode cX10_init 183 = .ok (.new 39, 3) := by decide +kernel
theorem dX10_init_186 : decode cX10_init 186 = .ok (.dup, 1) := by decide +kernel
theorem dX10_init_187 : decode cX10_init 187 = .ok (.invokespecial 41, 3) := by decide +kernel
theorem dX10_init_190 : decode cX10_init 190 = .ok (.putfield 91, 3) := by decide +kernel
theorem dX10_init_193 : decode cX10_init 193 = .ok (.aload_n 0, 1) := by decide +kernel
theorem dX10_init_194 : decode cX10_init 194 = .ok (.aload_n 0, 1) := by decide +kernel
theorem dX10_init_195 : decode cX10_init 195 = .ok (.getfield 12, 3) := by decide +kernel
theorem dX10_init_198 : decode cX10_init 198 = .ok (.invokevirtual 94, 3) := by decide +kernel
theorem dX10_init_201 : decode cX10_init 201 = .ok (.return_, 1) := by decide +kernel
abbrev MX10_init : MI := (RX10, cX10_init, 1, 6, true)
def bX10_init : St := (seqS (oiS (lvR 0)) (seqS (putR 10 0 (lvR 0) (newO 6 mX6_init)) (seqS (putR 10 1 (lvR 0) (newO 1 mX1_init)) (seqS (putR 10 2 (lvR 0) (newO 3 mX3_init)) (seqS (putR 10 3 (lvR 0) (newO 7 mX7_init)) (seqS (putR 10 4 (lvR 0) (newR (16 * 2 ^ 10))) (seqS (putR 10 5 (lvR 0) (newR (16 * 2 ^ 10))) (seqS (putR 10 6 (lvR 0) (newR (16 * 2 ^ 10))) (seqS (putR 10 7 (lvR 0) (newR (16 * 2 ^ 10))) (seqS (putR 10 8 (lvR 0) (newR (16 * 2 ^ 10))) (seqS (putR 10 9 (lvR 0) (newR (16 * 2 ^ 10))) (seqS (putR 10 10 (lvR 0) (newO 9 mX9_init)) (seqS (putR 10 11 (lvR 0) (newO 9 mX9_init)) (seqS (putR 10 12 (lvR 0) (newA 5 (ciI (iI 20)))) (seqS (putI 10 13 (lvR 0) (ciI (iI 0))) (seqS (putI 10 14 (lvR 0) (ciI (iI 0))) (seqS (putI 10 15 (lvR 0) (ciI (iI 1))) (seqS (putR 10 16 (lvR 0) (newR (16 * 2 ^ 10))) (seqS (putR 10 17 (lvR 0) (newR (16 * 2 ^ 10))) (seqS (putR 10 18 (lvR 0) (newR (16 * 2 ^ 10))) (seqS (calS (ckV 10 1) mX10_begin (agC va_rf (lvR 0) (agC va_rf (getR 10 0 (lvR 0)) agN))) retV)))))))))))))))))))))
theorem jX10_init : JS MX10_init 0 0 0 202 [] bX10_init :=
  (JS.seq (pc1 := 4) (JS.oi (pc1 := 1) (i := 3) (JX.al (k := 0) rfl dX10_init_0) gw188 rowO.2.1 rowO.2.2 (by decide) dX10_init_1) (JS.seq (pc1 := 15) (JS.pR (pc1 := 5) (pc2 := 12) (c := 10) (k := 0) (i := 12) (JX.al (k := 0) rfl dX10_init_4) (JX.new (i := 9) (c := 6) cl6 fok6 gw189 gw190 gw13 dX10_init_5 dX10_init_8 aX6_init (RunK.I (i := 11) (n := 0) rfl (CN nX6_init (by decide) (by decide)) (Or.inl gw191) gw192 dX10_init_9) (by decide)) cl10 (by decide) (Or.inl ⟨_, rfl⟩) fk10_12 (Or.inl rfl) dX10_init_12) (JS.seq (pc1 := 26) (JS.pR (pc1 := 16) (pc2 := 23) (c := 10) (k := 1) (i := 21) (JX.al (k := 0) rfl dX10_init_15) (JX.new (i := 18) (c := 1) cl1 fok1 gw237 gw238 gw14 dX10_init_16 dX10_init_19 aX1_init (RunK.I (i := 20) (n := 0) rfl (CN nX1_init (by decide) (by decide)) (Or.inr nw239) gw240 dX10_init_20) (by decide)) cl10 (by decide) (Or.inl ⟨_, rfl⟩) fk10_21 (Or.inr ⟨rfl, rfl, rfl, gw436⟩) dX10_init_23) (JS.seq (pc1 := 37) (JS.pR (pc1 := 27) (pc2 := 34) (c := 10) (k := 2) (i := 28) (JX.al (k := 0) rfl dX10_init_26) (JX.new (i := 25) (c := 3) cl3 fok3 gw255 gw256 gw15 dX10_init_27 dX10_init_30 aX3_init (RunK.I (i := 27) (n := 0) rfl (CN nX3_init (by decide) (by decide)) (Or.inr nw257) gw258 dX10_init_31) (by decide)) cl10 (by decide) (Or.inl ⟨_, rfl⟩) fk10_28 (Or.inr ⟨rfl, rfl, rfl, gw440⟩) dX10_init_34) (JS.seq (pc1 := 48) (JS.pR (pc1 := 38) (pc2 := 45) (c := 10) (k := 3) (i := 35) (JX.al (k := 0) rfl dX10_init_37) (JX.new (i := 32) (c := 7) cl7 fok7 gw294 gw295 gw16 dX10_init_38 dX10_init_41 aX7_init (RunK.I (i := 34) (n := 0) rfl (CN nX7_init (by decide) (by decide)) (Or.inr nw296) gw297 dX10_init_42) (by decide)) cl10 (by decide) (Or.inl ⟨_, rfl⟩) fk10_35 (Or.inr ⟨rfl, rfl, rfl, gw442⟩) dX10_init_45) (JS.seq (pc1 := 59) (JS.pR (pc1 := 49) (pc2 := 56) (c := 10) (k := 4) (i := 42) (JX.al (k := 0) rfl dX10_init_48) (JX.newR (J := 10) (i := 39) (i2 := 41) (by decide) rowW rowO.1 rowO.2.1 rowO.2.2 gw322 gw30 gw2 nw323 gw32 gw33 (by decide) dX10_init_49 dX10_init_52 dX10_init_53 (by decide)) cl10 (by decide) (Or.inl ⟨_, rfl⟩) fk10_42 (Or.inr ⟨rfl, rfl, rfl, gw443⟩) dX10_init_56) (JS.seq (pc1 := 70) (JS.pR (pc1 := 60) (pc2 := 67) (c := 10) (k := 5) (i := 46) (JX.al (k := 0) rfl dX10_init_59) (JX.newR (J := 10) (i := 39) (i2 := 41) (by decide) rowW rowO.1 rowO.2.1 rowO.2.2 gw322 gw30 gw2 nw323 gw32 gw33 (by decide) dX10_init_60 dX10_init_63 dX10_init_64 (by decide)) cl10 (by decide) (Or.inl ⟨_, rfl⟩) fk10_46 (Or.inr ⟨rfl, rfl, rfl, gw445⟩) dX10_init_67) (JS.seq (pc1 := 81) (JS.pR (pc1 := 71) (pc2 := 78) (c := 10) (k := 6) (i := 49) (JX.al (k := 0) rfl dX10_init_70) (JX.newR (J := 10) (i := 39) (i2 := 41) (by decide) rowW rowO.1 rowO.2.1 rowO.2.2 gw322 gw30 gw2 nw323 gw32 gw33 (by decide) dX10_init_71 dX10_init_74 dX10_init_75 (by decide)) cl10 (by decide) (Or.inl ⟨_, rfl⟩) fk10_49 (Or.inr ⟨rfl, rfl, rfl, gw447⟩) dX10_init_78) (JS.seq (pc1 := 92) (JS.pR (pc1 := 82) (pc2 := 89) (c := 10) (k := 7) (i := 52) (JX.al (k := 0) rfl dX10_init_81) (JX.newR (J := 10) (i := 39) (i2 := 41) (by decide) rowW rowO.1 rowO.2.1 rowO.2.2 gw322 gw30 gw2 nw323 gw32 gw33 (by decide) dX10_init_82 dX10_init_85 dX10_init_86 (by decide)) cl10 (by decide) (Or.inl ⟨_, rfl⟩) fk10_52 (Or.inr ⟨rfl, rfl, rfl, gw449⟩) dX10_init_89) (JS.seq (pc1 := 103) (JS.pR (pc1 := 93) (pc2 := 100) (c := 10) (k := 8) (i := 55) (JX.al (k := 0) rfl dX10_init_92) (JX.newR (J := 10) (i := 39) (i2 := 41) (by decide) rowW rowO.1 rowO.2.1 rowO.2.2 gw322 gw30 gw2 nw323 gw32 gw33 (by decide) dX10_init_93 dX10_init_96 dX10_init_97 (by decide)) cl10 (by decide) (Or.inl ⟨_, rfl⟩) fk10_55 (Or.inr ⟨rfl, rfl, rfl, gw451⟩) dX10_init_100) (JS.seq (pc1 := 114) (JS.pR (pc1 := 104) (pc2 := 111) (c := 10) (k := 9) (i := 58) (JX.al (k := 0) rfl dX10_init_103) (JX.newR (J := 10) (i := 39) (i2 := 41) (by decide) rowW rowO.1 rowO.2.1 rowO.2.2 gw322 gw30 gw2 nw323 gw32 gw33 (by decide) dX10_init_104 dX10_init_107 dX10_init_108 (by decide)) cl10 (by decide) (Or.inl ⟨_, rfl⟩) fk10_58 (Or.inr ⟨rfl, rfl, rfl, gw452⟩) dX10_init_111) (JS.seq (pc1 := 125) (JS.pR (pc1 := 115) (pc2 := 122) (c := 10) (k := 10) (i := 64) (JX.al (k := 0) rfl dX10_init_114) (JX.new (i := 61) (c := 9) cl9 fok9 gw324 gw325 gw17 dX10_init_115 dX10_init_118 aX9_init (RunK.I (i := 63) (n := 0) rfl (CN nX9_init (by decide) (by decide)) (Or.inr nw326) gw327 dX10_init_119) (by decide)) cl10 (by decide) (Or.inl ⟨_, rfl⟩) fk10_64 (Or.inr ⟨rfl, rfl, rfl, gw453⟩) dX10_init_122) (JS.seq (pc1 := 136) (JS.pR (pc1 := 126) (pc2 := 133) (c := 10) (k := 11) (i := 68) (JX.al (k := 0) rfl dX10_init_125) (JX.new (i := 61) (c := 9) cl9 fok9 gw324 gw325 gw17 dX10_init_126 dX10_init_129 aX9_init (RunK.I (i := 63) (n := 0) rfl (CN nX9_init (by decide) (by decide)) (Or.inr nw326) gw327 dX10_init_130) (by decide)) cl10 (by decide) (Or.inl ⟨_, rfl⟩) fk10_68 (Or.inr ⟨rfl, rfl, rfl, gw458⟩) dX10_init_133) (JS.seq (pc1 := 145) (JS.pR (pc1 := 137) (pc2 := 142) (c := 10) (k := 12) (i := 71) (JX.al (k := 0) rfl dX10_init_136) (JX.newr (pc1 := 139) (i := 61) (JX.bp (n := 20) kb20 dX10_init_137) gw324 dX10_init_139) cl10 (by decide) (Or.inr ⟨_, rfl⟩) fk10_71 (Or.inr ⟨rfl, rfl, rfl, gw460⟩) dX10_init_142) (JS.seq (pc1 := 150) (JS.pI (pc1 := 146) (pc2 := 147) (c := 10) (k := 13) (i := 75) (JX.al (k := 0) rfl dX10_init_145) (JX.ic (n := 0) rfl dX10_init_146) cl10 (by decide) rfl fk10_75 (Or.inl rfl) dX10_init_147) (JS.seq (pc1 := 155) (JS.pI (pc1 := 151) (pc2 := 152) (c := 10) (k := 14) (i := 79) (JX.al (k := 0) rfl dX10_init_150) (JX.ic (n := 0) rfl dX10_init_151) cl10 (by decide) rfl fk10_79 (Or.inl rfl) dX10_init_152) (JS.seq (pc1 := 160) (JS.pI (pc1 := 156) (pc2 := 157) (c := 10) (k := 15) (i := 82) (JX.al (k := 0) rfl dX10_init_155) (JX.ic (n := 1) rfl dX10_init_156) cl10 (by decide) rfl fk10_82 (Or.inl rfl) dX10_init_157) (JS.seq (pc1 := 171) (JS.pR (pc1 := 161) (pc2 := 168) (c := 10) (k := 16) (i := 85) (JX.al (k := 0) rfl dX10_init_160) (JX.newR (J := 10) (i := 39) (i2 := 41) (by decide) rowW rowO.1 rowO.2.1 rowO.2.2 gw322 gw30 gw2 nw323 gw32 gw33 (by decide) dX10_init_161 dX10_init_164 dX10_init_165 (by decide)) cl10 (by decide) (Or.inl ⟨_, rfl⟩) fk10_85 (Or.inr ⟨rfl, rfl, rfl, gw466⟩) dX10_init_168) (JS.seq (pc1 := 182) (JS.pR (pc1 := 172) (pc2 := 179) (c := 10) (k := 17) (i := 88) (JX.al (k := 0) rfl dX10_init_171) (JX.newR (J := 10) (i := 39) (i2 := 41) (by decide) rowW rowO.1 rowO.2.1 rowO.2.2 gw322 gw30 gw2 nw323 gw32 gw33 (by decide) dX10_init_172 dX10_init_175 dX10_init_176 (by decide)) cl10 (by decide) (Or.inl ⟨_, rfl⟩) fk10_88 (Or.inr ⟨rfl, rfl, rfl, gw468⟩) dX10_init_179) (JS.seq (pc1 := 193) (JS.pR (pc1 := 183) (pc2 := 190) (c := 10) (k := 18) (i := 91) (JX.al (k := 0) rfl dX10_init_182) (JX.newR (J := 10) (i := 39) (i2 := 41) (by decide) rowW rowO.1 rowO.2.1 rowO.2.2 gw322 gw30 gw2 nw323 gw32 gw33 (by decide) dX10_init_183 dX10_init_186 dX10_init_187 (by decide)) cl10 (by decide) (Or.inl ⟨_, rfl⟩) fk10_91 (Or.inr ⟨rfl, rfl, rfl, gw470⟩) dX10_init_190) (JS.seq (pc1 := 201) (JS.call (pc1 := 198) (JA.r (JX.al (k := 0) rfl dX10_init_193) (JA.r (JX.getR (pc1 := 195) (c := 10) (k := 0) (i := 12) (JX.al (k := 0) rfl dX10_init_194) cl10 (by decide) rfl fk10_12 dX10_init_195) JA.nil)) aX10_begin (RunK.V (i := 94) (c := 10) (n := 1) cl10 rfl (CN nX10_begin (by decide) (by decide)) gw410 gw412 gs0 dX10_init_198)) (JS.retV dX10_init_201))))))))))))))))))))))
def mX10_init : MS := runM 1 none bX10_init
theorem aX10_init : MA yX10_init cX10_init 1 none 6 mX10_init := MA.of (plainFor_of_name (by decide)) jX10_init
theorem eX10_init (a0 : Nat) (h : AH) : mX10_init [.ref a0] h = (bX10_init [.val (.ref a0)] h).bind (finM none) := rfl
/-! PieceStore.<init> -/
theorem dX11_init_0 : decode cX11_init 0 = .ok (.aload_n 0, 1) := by decide +kernel
theorem dX11_init_1 : decode cX11_init 1 = .ok (.invokespecial 1, 3) := by decide +kernel
theorem dX11_init_4 : decode cX11_init 4 = .ok (.aload_n 0, 1) := by decide +kernel
theorem dX11_init_5 : decode cX11_init 5 = .ok (.new 7, 3) := by decide +kernel
theorem dX11_init_8 : decode cX11_init 8 = .ok (.dup, 1) := by decide +kernel
theorem dX11_init_9 : decode cX11_init 9 = .ok (.invokespecial 9, 3) := by decide +kernel
theorem dX11_init_12 : decode cX11_init 12 = .ok (.putfield 10, 3) := by decide +kernel
theorem dX11_init_15 : decode cX11_init 15 = .ok (.aload_n 0, 1) := by decide +kernel
theorem dX11_init_16 : decode cX11_init 16 = .ok (.new 7, 3) := by decide +kernel
theorem dX11_init_19 : decode cX11_init 19 = .ok (.dup, 1) := by decide +kernel
theorem dX11_init_20 : decode cX11_init 20 = .ok (.invokespecial 9, 3) := by decide +kernel
theorem dX11_init_23 : decode cX11_init 23 = .ok (.putfield 16, 3) := by decide +kernel
theorem dX11_init_26 : decode cX11_init 26 = .ok (.aload_n 0, 1) := by decide +kernel
theorem dX11_init_27 : decode cX11_init 27 = .ok (.new 19, 3) := by decide +kernel
theorem dX11_init_30 : decode cX11_init 30 = .ok (.dup, 1) := by decide +kernel
theorem dX11_init_31 : decode cX11_init 31 = .ok (.invokespecial 21, 3) := by decide +kernel
theorem dX11_init_34 : decode cX11_init 34 = .ok (.putfield 22, 3) := by decide +kernel
theorem dX11_init_37 : decode cX11_init 37 = .ok (.aload_n 0, 1) := by decide +kernel
theorem dX11_init_38 : decode cX11_init 38 = .ok (.new 26, 3) := by decide +kernel
theorem dX11_init_41 : decode cX11_init 41 = .ok (.dup, 1) := by decide +kernel
theorem dX11_init_42 : decode cX11_init 42 = .ok (.invokespecial 28, 3) := by decide +kernel
theorem dX11_init_45 : decode cX11_init 45 = .ok (.putfield 29, 3) := by decide +kernel
theorem dX11_init_48 : decode cX11_init 48 = .ok (.aload_n 0, 1) := by decide +kernel
theorem dX11_init_49 : decode cX11_init 49 = .ok (.new 33, 3) := by decide +kernel
theorem dX11_init_52 : decode cX11_init 52 = .ok (.dup, 1) := by decide +kernel
theorem dX11_init_53 : decode cX11_init 53 = .ok (.invokespecial 35, 3) := by decide +kernel
theorem dX11_init_56 : decode cX11_init 56 = .ok (.putfield 36, 3) := by decide +kernel
theorem dX11_init_59 : decode cX11_init 59 = .ok (.aload_n 0, 1) := by decide +kernel
theorem dX11_init_60 : decode cX11_init 60 = .ok (.new 40, 3) := by decide +kernel
theorem dX11_init_63 : decode cX11_init 63 = .ok (.dup, 1) := by decide +kernel
theorem dX11_init_64 : decode cX11_init 64 = .ok (.invokespecial 42, 3) := by decide +kernel
theorem dX11_init_67 : decode cX11_init 67 = .ok (.putfield 43, 3) := by decide +kernel
theorem dX11_init_70 : decode cX11_init 70 = .ok (.aload_n 0, 1) := by decide +kernel
theorem dX11_init_71 : decode cX11_init 71 = .ok (.new 47, 3) := by decide +kernel
theorem dX11_init_74 : decode cX11_init 74 = .ok (.dup, 1) := by decide +kernel
theorem dX11_init_75 : decode cX11_init 75 = .ok (.invokespecial 49, 3) := by decide +kernel
theorem dX11_init_78 : decode cX11_init 78 = .ok (.putfield 50, 3) := by decide +kernel
theorem dX11_init_81 : decode cX11_init 81 = .ok (.aload_n 0, 1) := by decide +kernel
theorem dX11_init_82 : decode cX11_init 82 = .ok (.iconst 0, 1) := by decide +kernel
theorem dX11_init_83 : decode cX11_init 83 = .ok (.putfield 54, 3) := by decide +kernel
theorem dX11_init_86 : decode cX11_init 86 = .ok (.aload_n 0, 1) := by decide +kernel
theorem dX11_init_87 : decode cX11_init 87 = .ok (.iconst 0, 1) := by decide +kernel
theorem dX11_init_88 : decode cX11_init 88 = .ok (.putfield 58, 3) := by decide +kernel
theorem dX11_init_91 : decode cX11_init 91 = .ok (.aload_n 0, 1) := by decide +kernel
theorem dX11_init_92 : decode cX11_init 92 = .ok (.iconst (-1), 1) := by decide +kernel
theorem dX11_init_93 : decode cX11_init 93 = .ok (.putfield 62, 3) := by decide +kernel
theorem dX11_init_96 : decode cX11_init 96 = .ok (.aload_n 0, 1) := by decide +kernel
theorem dX11_init_97 : decode cX11_init 97 = .ok (.getfield 16, 3) := by decide +kernel
theorem dX11_init_100 : decode cX11_init 100 = .ok (.bipush 6, 2) := by decide +kernel
theorem dX11_init_102 : decode cX11_init 102 = .ok (.iconst 0, 1) := by decide +kernel
theorem dX11_init_103 : decode cX11_init 103 = .ok (.invokevirtual 65, 3) := by decide +kernel
theorem dX11_init_106 : decode cX11_init 106 = .ok (.return_, 1) := by decide +kernel
abbrev MX11_init : MI := (RX11, cX11_init, 1, 10, true)
def bX11_init : St := (seqS (oiS (lvR 0)) (seqS (putR 11 0 (lvR 0) (newR (16 * 2 ^ 10))) (seqS (putR 11 1 (lvR 0) (newR (16 * 2 ^ 10))) (seqS (putR 11 2 (lvR 0) (newO 4 mX4_init)) (seqS (putR 11 3 (lvR 0) (newO 10 mX10_init)) (seqS (putR 11 4 (lvR 0) (newO 2 mX2_init)) (seqS (putR 11 5 (lvR 0) (newO 8 mX8_init)) (seqS (putR 11 6 (lvR 0) (newO 6 mX6_init)) (seqS (putZ 11 7 (lvR 0) (ciI (iI 0))) (seqS (putI 11 8 (lvR 0) (ciI (iI 0))) (seqS (putI 11 9 (lvR 0) (ciI (iI (-1)))) (seqS (calS (ckV 5 2) mX5_fill (agC va_rf (getR 11 1 (lvR 0)) (agC Value.int (ciI (iI 6)) (agC Value.int (ciI (iI 0)) agN)))) retV))))))))))))
theorem jX11_init : JS MX11_init 0 0 0 107 [] bX11_init :=
  (JS.seq (pc1 := 4) (JS.oi (pc1 := 1) (i := 1) (JX.al (k := 0) rfl dX11_init_0) gw26 rowO.2.1 rowO.2.2 (by decide) dX11_init_1) (JS.seq (pc1 := 15) (JS.pR (pc1 := 5) (pc2 := 12) (c := 11) (k := 0) (i := 10) (JX.al (k := 0) rfl dX11_init_4) (JX.newR (J := 10) (i := 7) (i2 := 9) (by decide) rowW rowO.1 rowO.2.1 rowO.2.2 gw29 gw30 gw2 nw31 gw32 gw33 (by decide) dX11_init_5 dX11_init_8 dX11_init_9 (by decide)) cl11 (by decide) (Or.inl ⟨_, rfl⟩) fk11_10 (Or.inr ⟨rfl, rfl, rfl, gw551⟩) dX11_init_12) (JS.seq (pc1 := 26) (JS.pR (pc1 := 16) (pc2 := 23) (c := 11) (k := 1) (i := 16) (JX.al (k := 0) rfl dX11_init_15) (JX.newR (J := 10) (i := 7) (i2 := 9) (by decide) rowW rowO.1 rowO.2.1 rowO.2.2 gw29 gw30 gw2 nw31 gw32 gw33 (by decide) dX11_init_16 dX11_init_19 dX11_init_20 (by decide)) cl11 (by decide) (Or.inl ⟨_, rfl⟩) fk11_16 (Or.inr ⟨rfl, rfl, rfl, gw552⟩) dX11_init_23) (JS.seq (pc1 := 37) (JS.pR (pc1 := 27) (pc2 := 34) (c := 11) (k := 2) (i := 22) (JX.al (k := 0) rfl dX11_init_26) (JX.new (i := 19) (c := 4) cl4 fok4 gw43 gw44 gw3 dX11_init_27 dX11_init_30 aX4_init (RunK.I (i := 21) (n := 0) rfl (CN nX4_init (by decide) (by decide)) (Or.inl gw45) gw46 dX11_init_31) (by decide)) cl11 (by decide) (Or.inl ⟨_, rfl⟩) fk11_22 (Or.inr ⟨rfl, rfl, rfl, gw553⟩) dX11_init_34) (JS.seq (pc1 := 48) (JS.pR (pc1 := 38) (pc2 := 45) (c := 11) (k := 3) (i := 29) (JX.al (k := 0) rfl dX11_init_37) (JX.new (i := 26) (c := 10) cl10 fok10 gw183 gw184 gw12 dX11_init_38 dX11_init_41 aX10_init (RunK.I (i := 28) (n := 0) rfl (CN nX10_init (by decide) (by decide)) (Or.inl gw185) gw186 dX11_init_42) (by decide)) cl11 (by decide) (Or.inl ⟨_, rfl⟩) fk11_29 (Or.inr ⟨rfl, rfl, rfl, gw554⟩) dX11_init_45) (JS.seq (pc1 := 59) (JS.pR (pc1 := 49) (pc2 := 56) (c := 11) (k := 4) (i := 36) (JX.al (k := 0) rfl dX11_init_48) (JX.new (i := 33) (c := 2) cl2 fok2 gw511 gw512 gw18 dX11_init_49 dX11_init_52 aX2_init (RunK.I (i := 35) (n := 0) rfl (CN nX2_init (by decide) (by decide)) (Or.inr nw513) gw514 dX11_init_53) (by decide)) cl11 (by decide) (Or.inl ⟨_, rfl⟩) fk11_36 (Or.inr ⟨rfl, rfl, rfl, gw555⟩) dX11_init_56) (JS.seq (pc1 := 70) (JS.pR (pc1 := 60) (pc2 := 67) (c := 11) (k := 5) (i := 43) (JX.al (k := 0) rfl dX11_init_59) (JX.new (i := 40) (c := 8) cl8 fok8 gw529 gw530 gw19 dX11_init_60 dX11_init_63 aX8_init (RunK.I (i := 42) (n := 0) rfl (CN nX8_init (by decide) (by decide)) (Or.inr nw531) gw532 dX11_init_64) (by decide)) cl11 (by decide) (Or.inl ⟨_, rfl⟩) fk11_43 (Or.inr ⟨rfl, rfl, rfl, gw556⟩) dX11_init_67) (JS.seq (pc1 := 81) (JS.pR (pc1 := 71) (pc2 := 78) (c := 11) (k := 6) (i := 50) (JX.al (k := 0) rfl dX11_init_70) (JX.new (i := 47) (c := 6) cl6 fok6 gw548 gw190 gw13 dX11_init_71 dX11_init_74 aX6_init (RunK.I (i := 49) (n := 0) rfl (CN nX6_init (by decide) (by decide)) (Or.inl gw549) gw192 dX11_init_75) (by decide)) cl11 (by decide) (Or.inl ⟨_, rfl⟩) fk11_50 (Or.inl rfl) dX11_init_78) (JS.seq (pc1 := 86) (JS.pZ (pc1 := 82) (pc2 := 83) (c := 11) (k := 7) (i := 54) (JX.al (k := 0) rfl dX11_init_81) (JX.ic (n := 0) rfl dX11_init_82) cl11 (by decide) rfl fk11_54 (Or.inl rfl) dX11_init_83) (JS.seq (pc1 := 91) (JS.pI (pc1 := 87) (pc2 := 88) (c := 11) (k := 8) (i := 58) (JX.al (k := 0) rfl dX11_init_86) (JX.ic (n := 0) rfl dX11_init_87) cl11 (by decide) rfl fk11_58 (Or.inl rfl) dX11_init_88) (JS.seq (pc1 := 96) (JS.pI (pc1 := 92) (pc2 := 93) (c := 11) (k := 9) (i := 62) (JX.al (k := 0) rfl dX11_init_91) (JX.ic (n := (-1)) rfl dX11_init_92) cl11 (by decide) rfl fk11_62 (Or.inl rfl) dX11_init_93) (JS.seq (pc1 := 106) (JS.call (pc1 := 103) (JA.r (JX.getR (pc1 := 97) (c := 11) (k := 1) (i := 16) (JX.al (k := 0) rfl dX11_init_96) cl11 (by decide) rfl fk11_16 dX11_init_97) (JA.i (JX.bp (n := 6) kb6 dX11_init_100) (JA.i (JX.ic (n := 0) rfl dX11_init_102) JA.nil))) aX5_fill (RunK.V (i := 65) (c := 5) (n := 2) cl5 rfl (CN nX5_fill (by decide) (by decide)) gw550 gw200 gw201 dX11_init_103)) (JS.retV dX11_init_106)))))))))))))
def mX11_init : MS := runM 1 none bX11_init
theorem aX11_init : MA yX11_init cX11_init 1 none 10 mX11_init := MA.of (plainFor_of_name (by decide)) jX11_init
theorem eX11_init (a0 : Nat) (h : AH) : mX11_init [.ref a0] h = (bX11_init [.val (.ref a0)] h).bind (finM none) := rfl
/-! PieceStore.feedNumber -/
theorem dX11_feedNumber_0 : decode cX11_feedNumber 0 = .ok (.bipush 24, 2) := by decide +kernel
theorem dX11_feedNumber_2 : decode cX11_feedNumber 2 = .ok (.istore_n 2, 1) := by decide +kernel
theorem dX11_feedNumber_3 : decode cX11_feedNumber 3 = .ok (.iload_n 2, 1) := by decide +kernel
theorem dX11_feedNumber_4 : decode cX11_feedNumber 4 = .ok (.ifCond .lt 23, 3) := by decide +kernel
theorem dX11_feedNumber_7 : decode cX11_feedNumber 7 = .ok (.aload_n 0, 1) := by decide +kernel
theorem dX11_feedNumber_8 : decode cX11_feedNumber 8 = .ok (.getfield 10, 3) := by decide +kernel
theorem dX11_feedNumber_11 : decode cX11_feedNumber 11 = .ok (.iload_n 1, 1) := by decide +kernel
theorem dX11_feedNumber_12 : decode cX11_feedNumber 12 = .ok (.iload_n 2, 1) := by decide +kernel
theorem dX11_feedNumber_13 : decode cX11_feedNumber 13 = .ok (.iushr, 1) := by decide +kernel
theorem dX11_feedNumber_14 : decode cX11_feedNumber 14 = .ok (.sipush 255, 3) := by decide +kernel
theorem dX11_feedNumber_17 : decode cX11_feedNumber 17 = .ok (.iand, 1) := by decide +kernel
theorem dX11_feedNumber_18 : decode cX11_feedNumber 18 = .ok (.invokevirtual 314, 3) := by decide +kernel
theorem dX11_feedNumber_21 : decode cX11_feedNumber 21 = .ok (.iinc 2 (-8), 3) := by decide +kernel
theorem dX11_feedNumber_24 : decode cX11_feedNumber 24 = .ok (.goto (-21), 3) := by decide +kernel
theorem dX11_feedNumber_27 : decode cX11_feedNumber 27 = .ok (.return_, 1) := by decide +kernel
abbrev MX11_feedNumber : MI := (RX11, cX11_feedNumber, 3, 3, false)
def lcX11_feedNumber_1 : Ex Bool := (ge0 (lvI 2))
def lbX11_feedNumber_1 : St := (forB (calS (ckV 5 1) mX5_add (agC va_rf (getR 11 0 (lvR 0)) (agC Value.int (andI (ushrI (lvI 1) (lvI 2)) (ciI (iI 255))) agN))) (incI 2 (iI (-8))))
def bX11_feedNumber : St := (seqS (scS 2 (seqS (lsI 2 (ciI (iI 24))) (whileS lcX11_feedNumber_1 lbX11_feedNumber_1))) retV)
theorem jX11_feedNumber : JS MX11_feedNumber 0 0 0 28 [] bX11_feedNumber :=
  (JS.seq (pc1 := 27) (JS.sc (JS.seq (pc1 := 3) (JS.is (pc1 := 2) (k := 2) (JX.bp (n := 24) kb24 dX11_feedNumber_0) rfl (show 2 < 3 by decide) dX11_feedNumber_2) (JS.while (l := 27) (lb := 27) (pc1 := 7) (pc2 := 24) (pc3 := 27) (CJ.ge0_f (tgt := 27) (pc1 := 4) (JX.il (k := 2) rfl dX11_feedNumber_3) dX11_feedNumber_4 rfl) (JS.forb (pc1 := 21) (JS.call (pc1 := 18) (JA.r (JX.getR (pc1 := 8) (c := 11) (k := 0) (i := 10) (JX.al (k := 0) rfl dX11_feedNumber_7) cl11 (by decide) rfl fk11_10 dX11_feedNumber_8) (JA.i (JX.iand (pc1 := 14) (pc2 := 17) (JX.iushr (pc1 := 12) (pc2 := 13) (JX.il (k := 1) rfl dX11_feedNumber_11) (JX.il (k := 2) rfl dX11_feedNumber_12) dX11_feedNumber_13) (JX.sp (n := 255) ks255 dX11_feedNumber_14) dX11_feedNumber_17) JA.nil)) aX5_add (RunK.V (i := 314) (c := 5) (n := 1) cl5 rfl (CN nX5_add (by decide) (by decide)) gw606 gw121 gw122 dX11_feedNumber_18)) (JS.inc (n := (-8)) rfl (show 2 < 3 by decide) dX11_feedNumber_21)) dX11_feedNumber_24 rfl (Or.inl rfl) (Or.inl rfl)))) (JS.retV dX11_feedNumber_27))
def mX11_feedNumber : MS := runM 3 none bX11_feedNumber
theorem aX11_feedNumber : MA yX11_feedNumber cX11_feedNumber 3 none 3 mX11_feedNumber := MA.of (plainFor_of_name (by decide)) jX11_feedNumber
theorem eX11_feedNumber (a0 : Nat) (a1 : Int32) (h : AH) : mX11_feedNumber [.ref a0, .int a1] h = (bX11_feedNumber [.val (.ref a0), .val (.int a1), .unset] h).bind (finM none) := rfl
def mX5_at : MS := runM 2 (some (.int)) atB
theorem eX5_at (a0 : Nat) (a1 : Int32) (h : AH) : mX5_at [.ref a0, .int a1] h = (atB [.val (.ref a0), .val (.int a1)] h).bind (finM (some (.int))) := rfl
theorem aX5_at : MA yX5_at cX5_at 2 (some (.int)) 1 mX5_at := MA.of (plainFor_of_name (by decide)) (at_J (dep := 1) cl5 rowW.2.1 rowW.2.2.1)
def mX5_put : MS := runM 3 none putB
theorem eX5_put (a0 : Nat) (a1 : Int32) (a2 : Int32) (h : AH) : mX5_put [.ref a0, .int a1, .int a2] h = (putB [.val (.ref a0), .val (.int a1), .val (.int a2)] h).bind (finM none) := rfl
theorem aX5_put : MA yX5_put cX5_put 3 none 1 mX5_put := MA.of (plainFor_of_name (by decide)) (put_J (dep := 1) cl5 rowW.2.1 rowW.2.2.1)
/-! PieceStore.refuse -/
theorem dX11_refuse_0 : decode cX11_refuse 0 = .ok (.aload_n 0, 1) := by decide +kernel
theorem dX11_refuse_1 : decode cX11_refuse 1 = .ok (.getfield 16, 3) := by decide +kernel
theorem dX11_refuse_4 : decode cX11_refuse 4 = .ok (.iload_n 1, 1) := by decide +kernel
theorem dX11_refuse_5 : decode cX11_refuse 5 = .ok (.aload_n 0, 1) := by decide +kernel
theorem dX11_refuse_6 : decode cX11_refuse 6 = .ok (.getfield 16, 3) := by decide +kernel
theorem dX11_refuse_9 : decode cX11_refuse 9 = .ok (.iload_n 1, 1) := by decide +kernel
theorem dX11_refuse_10 : decode cX11_refuse 10 = .ok (.invokevirtual 161, 3) := by decide +kernel
theorem dX11_refuse_13 : decode cX11_refuse 13 = .ok (.iconst 1, 1) := by decide +kernel
theorem dX11_refuse_14 : decode cX11_refuse 14 = .ok (.iadd, 1) := by decide +kernel
theorem dX11_refuse_15 : decode cX11_refuse 15 = .ok (.invokevirtual 228, 3) := by decide +kernel
theorem dX11_refuse_18 : decode cX11_refuse 18 = .ok (.iconst (-1), 1) := by decide +kernel
theorem dX11_refuse_19 : decode cX11_refuse 19 = .ok (.ireturn, 1) := by decide +kernel
abbrev MX11_refuse : MI := (RX11, cX11_refuse, 2, 2, false)
def bX11_refuse : St := (seqS (calS (ckV 5 2) mX5_put (agC va_rf (getR 11 1 (lvR 0)) (agC Value.int (lvI 1) (agC Value.int (addI (calX decI (ckV 5 1) mX5_at (agC va_rf (getR 11 1 (lvR 0)) (agC Value.int (lvI 1) agN))) (ciI (iI 1))) agN)))) (retI (ciI (iI (-1)))))
theorem jX11_refuse : JS MX11_refuse 0 0 0 20 [] bX11_refuse :=
  (JS.seq (pc1 := 18) (JS.call (pc1 := 15) (JA.r (JX.getR (pc1 := 1) (c := 11) (k := 1) (i := 16) (JX.al (k := 0) rfl dX11_refuse_0) cl11 (by decide) rfl fk11_16 dX11_refuse_1) (JA.i (JX.il (k := 1) rfl dX11_refuse_4) (JA.i (JX.iadd (pc1 := 13) (pc2 := 14) (JX.call (pc1 := 10) decI_ok (JA.r (JX.getR (pc1 := 6) (c := 11) (k := 1) (i := 16) (JX.al (k := 0) rfl dX11_refuse_5) cl11 (by decide) rfl fk11_16 dX11_refuse_6) (JA.i (JX.il (k := 1) rfl dX11_refuse_9) JA.nil)) aX5_at (RunK.V (i := 161) (c := 5) (n := 1) cl5 rfl (CN nX5_at (by decide) (by decide)) gw594 gw595 gw596 dX11_refuse_10) (by decide)) (JX.ic (n := 1) rfl dX11_refuse_13) dX11_refuse_14) JA.nil))) aX5_put (RunK.V (i := 228) (c := 5) (n := 2) cl5 rfl (CN nX5_put (by decide) (by decide)) gw598 gw599 gw600 dX11_refuse_15)) (JS.retI (pc1 := 19) (JX.ic (n := (-1)) rfl dX11_refuse_18) dX11_refuse_19))
def mX11_refuse : MS := runM 2 (some (.int)) bX11_refuse
theorem aX11_refuse : MA yX11_refuse cX11_refuse 2 (some (.int)) 2 mX11_refuse := MA.of (plainFor_of_name (by decide)) jX11_refuse
theorem eX11_refuse (a0 : Nat) (a1 : Int32) (h : AH) : mX11_refuse [.ref a0, .int a1] h = (bX11_refuse [.val (.ref a0), .val (.int a1)] h).bind (finM (some (.int))) := rfl
/-! Row.size -/
theorem dX5_size_0 : decode cX5_size 0 = .ok (.aload_n 0, 1) := by decide +kernel
theorem dX5_size_1 : decode cX5_size 1 = .ok (.getfield 15, 3) := by decide +kernel
theorem dX5_size_4 : decode cX5_size 4 = .ok (.ireturn, 1) := by decide +kernel
abbrev MX5_size : MI := (RX5, cX5_size, 1, 1, false)
def bX5_size : St := (retI (rszI (lvR 0)))
theorem jX5_size : JS MX5_size 0 0 0 5 [] bX5_size :=
  (JS.retI (pc1 := 4) (JX.rsz (pc1 := 1) (i := 15) (JX.al (k := 0) rfl dX5_size_0) cl5 fk5_15 dX5_size_1) dX5_size_4)
def mX5_size : MS := runM 1 (some (.int)) bX5_size
theorem aX5_size : MA yX5_size cX5_size 1 (some (.int)) 1 mX5_size := MA.of (plainFor_of_name (by decide)) jX5_size
theorem eX5_size (a0 : Nat) (h : AH) : mX5_size [.ref a0] h = (bX5_size [.val (.ref a0)] h).bind (finM (some (.int))) := rfl
/-! PieceStore.feed -/
theorem dX11_feed_0 : decode cX11_feed 0 = .ok (.aload_n 0, 1) := by decide +kernel
theorem dX11_feed_1 : decode cX11_feed 1 = .ok (.getfield 10, 3) := by decide +kernel
theorem dX11_feed_4 : decode cX11_feed 4 = .ok (.invokevirtual 69, 3) := by decide +kernel
theorem dX11_feed_7 : decode cX11_feed 7 = .ok (.bipush 20, 2) := by decide +kernel
theorem dX11_feed_9 : decode cX11_feed 9 = .ok (.iadd, 1) := by decide +kernel
theorem dX11_feed_10 : decode cX11_feed 10 = .ok (.sipush 1600, 3) := by decide +kernel
theorem dX11_feed_13 : decode cX11_feed 13 = .ok (.if_icmp .le 9, 3) := by decide +kernel
theorem dX11_feed_16 : decode cX11_feed 16 = .ok (.aload_n 0, 1) := by decide +kernel
theorem dX11_feed_17 : decode cX11_feed 17 = .ok (.iconst 0, 1) := by decide +kernel
theorem dX11_feed_18 : decode cX11_feed 18 = .ok (.invokevirtual 73, 3) := by decide +kernel
theorem dX11_feed_21 : decode cX11_feed 21 = .ok (.ireturn, 1) := by decide +kernel
theorem dX11_feed_22 : decode cX11_feed 22 = .ok (.aload_n 0, 1) := by decide +kernel
theorem dX11_feed_23 : decode cX11_feed 23 = .ok (.iload_n 1, 1) := by decide +kernel
theorem dX11_feed_24 : decode cX11_feed 24 = .ok (.invokevirtual 77, 3) := by decide +kernel
theorem dX11_feed_27 : decode cX11_feed 27 = .ok (.aload_n 0, 1) := by decide +kernel
theorem dX11_feed_28 : decode cX11_feed 28 = .ok (.iload_n 2, 1) := by decide +kernel
theorem dX11_feed_29 : decode cX11_feed 29 = .ok (.invokevirtual 77, 3) := by decide +kernel
theorem dX11_feed_32 : decode cX11_feed 32 = .ok (.aload_n 0, 1) := by decide +kernel
theorem dX11_feed_33 : decode cX11_feed 33 = .ok (.iload_n 3, 1) := by decide +kernel
theorem dX11_feed_34 : decode cX11_feed 34 = .ok (.invokevirtual 77, 3) := by decide +kernel
theorem dX11_feed_37 : decode cX11_feed 37 = .ok (.aload_n 0, 1) := by decide +kernel
theorem dX11_feed_38 : decode cX11_feed 38 = .ok (.iload 4, 2) := by decide +kernel
theorem dX11_feed_40 : decode cX11_feed 40 = .ok (.invokevirtual 77, 3) := by decide +kernel
theorem dX11_feed_43 : decode cX11_feed 43 = .ok (.aload_n 0, 1) := by decide +kernel
theorem dX11_feed_44 : decode cX11_feed 44 = .ok (.iload 5, 2) := by decide +kernel
theorem dX11_feed_46 : decode cX11_feed 46 = .ok (.invokevirtual 77, 3) := by decide +kernel
theorem dX11_feed_49 : decode cX11_feed 49 = .ok (.aload_n 0, 1) := by decide +kernel
theorem dX11_feed_50 : decode cX11_feed 50 = .ok (.getfield 10, 3) := by decide +kernel
theorem dX11_feed_53 : decode cX11_feed 53 = .ok (.invokevirtual 69, 3) := by decide +kernel
theorem dX11_feed_56 : decode cX11_feed 56 = .ok (.ireturn, 1) := by decide +kernel
abbrev MX11_feed : MI := (RX11, cX11_feed, 6, 4, false)
def bX11_feed : St := (seqS (ifS (gtI (addI (calX decI (ckV 5 0) mX5_size (agC va_rf (getR 11 0 (lvR 0)) agN)) (ciI (iI 20))) (ciI (iI 1600))) (retI (calX decI (ckV 11 1) mX11_refuse (agC va_rf (lvR 0) (agC Value.int (ciI (iI 0)) agN))))) (seqS (calS (ckV 11 1) mX11_feedNumber (agC va_rf (lvR 0) (agC Value.int (lvI 1) agN))) (seqS (calS (ckV 11 1) mX11_feedNumber (agC va_rf (lvR 0) (agC Value.int (lvI 2) agN))) (seqS (calS (ckV 11 1) mX11_feedNumber (agC va_rf (lvR 0) (agC Value.int (lvI 3) agN))) (seqS (calS (ckV 11 1) mX11_feedNumber (agC va_rf (lvR 0) (agC Value.int (lvI 4) agN))) (seqS (calS (ckV 11 1) mX11_feedNumber (agC va_rf (lvR 0) (agC Value.int (lvI 5) agN))) (retI (calX decI (ckV 5 0) mX5_size (agC va_rf (getR 11 0 (lvR 0)) agN)))))))))
theorem jX11_feed : JS MX11_feed 0 0 0 57 [] bX11_feed :=
  (JS.seq (pc1 := 22) (JS.iff (l := 22) (pc1 := 16) (CJ.gt_f (tgt := 22) (pc1 := 10) (pc2 := 13) (JX.iadd (pc1 := 7) (pc2 := 9) (JX.call (pc1 := 4) decI_ok (JA.r (JX.getR (pc1 := 1) (c := 11) (k := 0) (i := 10) (JX.al (k := 0) rfl dX11_feed_0) cl11 (by decide) rfl fk11_10 dX11_feed_1) JA.nil) aX5_size (RunK.V (i := 69) (c := 5) (n := 0) cl5 rfl (CN nX5_size (by decide) (by decide)) gw586 gw587 gw588 dX11_feed_4) (by decide)) (JX.bp (n := 20) kb20 dX11_feed_7) dX11_feed_9) (JX.sp (n := 1600) ks1600 dX11_feed_10) dX11_feed_13 rfl) (JS.retI (pc1 := 21) (JX.call (pc1 := 18) decI_ok (JA.r (JX.al (k := 0) rfl dX11_feed_16) (JA.i (JX.ic (n := 0) rfl dX11_feed_17) JA.nil)) aX11_refuse (RunK.V (i := 73) (c := 11) (n := 1) cl11 rfl (CN nX11_refuse (by decide) (by decide)) gw590 gw592 gs1 dX11_feed_18) (by decide)) dX11_feed_21) (Or.inl rfl)) (JS.seq (pc1 := 27) (JS.call (pc1 := 24) (JA.r (JX.al (k := 0) rfl dX11_feed_22) (JA.i (JX.il (k := 1) rfl dX11_feed_23) JA.nil)) aX11_feedNumber (RunK.V (i := 77) (c := 11) (n := 1) cl11 rfl (CN nX11_feedNumber (by decide) (by decide)) gw602 gw604 gs2 dX11_feed_24)) (JS.seq (pc1 := 32) (JS.call (pc1 := 29) (JA.r (JX.al (k := 0) rfl dX11_feed_27) (JA.i (JX.il (k := 2) rfl dX11_feed_28) JA.nil)) aX11_feedNumber (RunK.V (i := 77) (c := 11) (n := 1) cl11 rfl (CN nX11_feedNumber (by decide) (by decide)) gw602 gw604 gs2 dX11_feed_29)) (JS.seq (pc1 := 37) (JS.call (pc1 := 34) (JA.r (JX.al (k := 0) rfl dX11_feed_32) (JA.i (JX.il (k := 3) rfl dX11_feed_33) JA.nil)) aX11_feedNumber (RunK.V (i := 77) (c := 11) (n := 1) cl11 rfl (CN nX11_feedNumber (by decide) (by decide)) gw602 gw604 gs2 dX11_feed_34)) (JS.seq (pc1 := 43) (JS.call (pc1 := 40) (JA.r (JX.al (k := 0) rfl dX11_feed_37) (JA.i (JX.il2 dX11_feed_38) JA.nil)) aX11_feedNumber (RunK.V (i := 77) (c := 11) (n := 1) cl11 rfl (CN nX11_feedNumber (by decide) (by decide)) gw602 gw604 gs2 dX11_feed_40)) (JS.seq (pc1 := 49) (JS.call (pc1 := 46) (JA.r (JX.al (k := 0) rfl dX11_feed_43) (JA.i (JX.il2 dX11_feed_44) JA.nil)) aX11_feedNumber (RunK.V (i := 77) (c := 11) (n := 1) cl11 rfl (CN nX11_feedNumber (by decide) (by decide)) gw602 gw604 gs2 dX11_feed_46)) (JS.retI (pc1 := 56) (JX.call (pc1 := 53) decI_ok (JA.r (JX.getR (pc1 := 50) (c := 11) (k := 0) (i := 10) (JX.al (k := 0) rfl dX11_feed_49) cl11 (by decide) rfl fk11_10 dX11_feed_50) JA.nil) aX5_size (RunK.V (i := 69) (c := 5) (n := 0) cl5 rfl (CN nX5_size (by decide) (by decide)) gw586 gw587 gw588 dX11_feed_53) (by decide)) dX11_feed_56)))))))
def mX11_feed : MS := runM 6 (some (.int)) bX11_feed
theorem aX11_feed : MA yX11_feed cX11_feed 6 (some (.int)) 4 mX11_feed := MA.of (plainFor_of_name (by decide)) jX11_feed
theorem eX11_feed (a0 : Nat) (a1 : Int32) (a2 : Int32) (a3 : Int32) (a4 : Int32) (a5 : Int32) (h : AH) : mX11_feed [.ref a0, .int a1, .int a2, .int a3, .int a4, .int a5] h = (bX11_feed [.val (.ref a0), .val (.int a1), .val (.int a2), .val (.int a3), .val (.int a4), .val (.int a5)] h).bind (finM (some (.int))) := rfl
/-! Row.cutTo -/
theorem dX5_cutTo_0 : decode cX5_cutTo 0 = .ok (.iload_n 1, 1) := by decide +kernel
theorem dX5_cutTo_1 : decode cX5_cutTo 1 = .ok (.ifCond .lt 16, 3) := by decide +kernel
theorem dX5_cutTo_4 : decode cX5_cutTo 4 = .ok (.iload_n 1, 1) := by decide +kernel
theorem dX5_cutTo_5 : decode cX5_cutTo 5 = .ok (.aload_n 0, 1) := by decide +kernel
theorem dX5_cutTo_6 : decode cX5_cutTo 6 = .ok (.getfield 15, 3) := by decide +kernel
theorem dX5_cutTo_9 : decode cX5_cutTo 9 = .ok (.if_icmp .ge 8, 3) := by decide +kernel
theorem dX5_cutTo_12 : decode cX5_cutTo 12 = .ok (.aload_n 0, 1) := by decide +kernel
theorem dX5_cutTo_13 : decode cX5_cutTo 13 = .ok (.iload_n 1, 1) := by decide +kernel
theorem dX5_cutTo_14 : decode cX5_cutTo 14 = .ok (.putfield 15, 3) := by decide +kernel
theorem dX5_cutTo_17 : decode cX5_cutTo 17 = .ok (.return_, 1) := by decide +kernel
abbrev MX5_cutTo : MI := (RX5, cX5_cutTo, 2, 1, false)
def bX5_cutTo : St := (seqS (ifS (andX (ge0 (lvI 1)) (ltI (lvI 1) (rszI (lvR 0)))) (rszS (lvR 0) (lvI 1))) retV)
theorem jX5_cutTo : JS MX5_cutTo 0 0 0 18 [] bX5_cutTo :=
  (JS.seq (pc1 := 17) (JS.iff (l := 17) (pc1 := 12) (CJ.and_f (pc1 := 4) (CJ.ge0_f (tgt := 17) (pc1 := 1) (JX.il (k := 1) rfl dX5_cutTo_0) dX5_cutTo_1 rfl) (CJ.lt_f (tgt := 17) (pc1 := 5) (pc2 := 9) (JX.il (k := 1) rfl dX5_cutTo_4) (JX.rsz (pc1 := 6) (i := 15) (JX.al (k := 0) rfl dX5_cutTo_5) cl5 fk5_15 dX5_cutTo_6) dX5_cutTo_9 rfl)) (JS.rsz (pc1 := 13) (pc2 := 14) (i := 15) (JX.al (k := 0) rfl dX5_cutTo_12) (JX.il (k := 1) rfl dX5_cutTo_13) cl5 gw36 dX5_cutTo_14) (Or.inl rfl)) (JS.retV dX5_cutTo_17))
def mX5_cutTo : MS := runM 2 none bX5_cutTo
theorem aX5_cutTo : MA yX5_cutTo cX5_cutTo 2 none 1 mX5_cutTo := MA.of (plainFor_of_name (by decide)) jX5_cutTo
theorem eX5_cutTo (a0 : Nat) (a1 : Int32) (h : AH) : mX5_cutTo [.ref a0, .int a1] h = (bX5_cutTo [.val (.ref a0), .val (.int a1)] h).bind (finM none) := rfl
/-! PieceStore.end -/
theorem dX11_end_0 : decode cX11_end 0 = .ok (.iload_n 1, 1) := by decide +kernel
theorem dX11_end_1 : decode cX11_end 1 = .ok (.ifCond .lt 14, 3) := by decide +kernel
theorem dX11_end_4 : decode cX11_end 4 = .ok (.iload_n 1, 1) := by decide +kernel
theorem dX11_end_5 : decode cX11_end 5 = .ok (.aload_n 0, 1) := by decide +kernel
theorem dX11_end_6 : decode cX11_end 6 = .ok (.getfield 10, 3) := by decide +kernel
theorem dX11_end_9 : decode cX11_end 9 = .ok (.invokevirtual 69, 3) := by decide +kernel
theorem dX11_end_12 : decode cX11_end 12 = .ok (.if_icmp .le 11, 3) := by decide +kernel
theorem dX11_end_15 : decode cX11_end 15 = .ok (.aload_n 0, 1) := by decide +kernel
theorem dX11_end_16 : decode cX11_end 16 = .ok (.iconst 0, 1) := by decide +kernel
theorem dX11_end_17 : decode cX11_end 17 = .ok (.invokevirtual 73, 3) := by decide +kernel
theorem dX11_end_20 : decode cX11_end 20 = .ok (.pop, 1) := by decide +kernel
theorem dX11_end_21 : decode cX11_end 21 = .ok (.iconst 0, 1) := by decide +kernel
theorem dX11_end_22 : decode cX11_end 22 = .ok (.ireturn, 1) := by decide +kernel
theorem dX11_end_23 : decode cX11_end 23 = .ok (.aload_n 0, 1) := by decide +kernel
theorem dX11_end_24 : decode cX11_end 24 = .ok (.getfield 10, 3) := by decide +kernel
theorem dX11_end_27 : decode cX11_end 27 = .ok (.iload_n 1, 1) := by decide +kernel
theorem dX11_end_28 : decode cX11_end 28 = .ok (.invokevirtual 81, 3) := by decide +kernel
theorem dX11_end_31 : decode cX11_end 31 = .ok (.iconst 1, 1) := by decide +kernel
theorem dX11_end_32 : decode cX11_end 32 = .ok (.ireturn, 1) := by decide +kernel
abbrev MX11_end : MI := (RX11, cX11_end, 2, 3, false)
def bX11_end : St := (seqS (ifS (orX (lt0 (lvI 1)) (gtI (lvI 1) (calX decI (ckV 5 0) mX5_size (agC va_rf (getR 11 0 (lvR 0)) agN)))) (seqS (exS (calX decI (ckV 11 1) mX11_refuse (agC va_rf (lvR 0) (agC Value.int (ciI (iI 0)) agN)))) (retI (ciI (iI 0))))) (seqS (calS (ckV 5 1) mX5_cutTo (agC va_rf (getR 11 0 (lvR 0)) (agC Value.int (lvI 1) agN))) (retI (ciI (iI 1)))))
theorem jX11_end : JS MX11_end 0 0 0 33 [] bX11_end :=
  (JS.seq (pc1 := 23) (JS.iff (l := 23) (pc1 := 15) (CJ.or_f (l := 15) (pc1 := 4) (CJ.lt0_t (tgt := 15) (pc1 := 1) (JX.il (k := 1) rfl dX11_end_0) dX11_end_1 rfl) (CJ.gt_f (tgt := 23) (pc1 := 5) (pc2 := 12) (JX.il (k := 1) rfl dX11_end_4) (JX.call (pc1 := 9) decI_ok (JA.r (JX.getR (pc1 := 6) (c := 11) (k := 0) (i := 10) (JX.al (k := 0) rfl dX11_end_5) cl11 (by decide) rfl fk11_10 dX11_end_6) JA.nil) aX5_size (RunK.V (i := 69) (c := 5) (n := 0) cl5 rfl (CN nX5_size (by decide) (by decide)) gw586 gw587 gw588 dX11_end_9) (by decide)) dX11_end_12 rfl) (Or.inl rfl)) (JS.seq (pc1 := 21) (JS.pop (pc1 := 20) (JX.call (pc1 := 17) decI_ok (JA.r (JX.al (k := 0) rfl dX11_end_15) (JA.i (JX.ic (n := 0) rfl dX11_end_16) JA.nil)) aX11_refuse (RunK.V (i := 73) (c := 11) (n := 1) cl11 rfl (CN nX11_refuse (by decide) (by decide)) gw590 gw592 gs1 dX11_end_17) (by decide)) (fun _ => rfl) dX11_end_20) (JS.retI (pc1 := 22) (JX.ic (n := 0) rfl dX11_end_21) dX11_end_22)) (Or.inl rfl)) (JS.seq (pc1 := 31) (JS.call (pc1 := 28) (JA.r (JX.getR (pc1 := 24) (c := 11) (k := 0) (i := 10) (JX.al (k := 0) rfl dX11_end_23) cl11 (by decide) rfl fk11_10 dX11_end_24) (JA.i (JX.il (k := 1) rfl dX11_end_27) JA.nil)) aX5_cutTo (RunK.V (i := 81) (c := 5) (n := 1) cl5 rfl (CN nX5_cutTo (by decide) (by decide)) gw611 gw612 gw613 dX11_end_28)) (JS.retI (pc1 := 32) (JX.ic (n := 1) rfl dX11_end_31) dX11_end_32)))
def mX11_end : MS := runM 2 (some (.boolean)) bX11_end
theorem aX11_end : MA yX11_end cX11_end 2 (some (.boolean)) 3 mX11_end := MA.of (plainFor_of_name (by decide)) jX11_end
theorem eX11_end (a0 : Nat) (a1 : Int32) (h : AH) : mX11_end [.ref a0, .int a1] h = (bX11_end [.val (.ref a0), .val (.int a1)] h).bind (finM (some (.boolean))) := rfl
