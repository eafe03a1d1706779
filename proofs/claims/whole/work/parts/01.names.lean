-- ===== PART A: goes FIRST, ahead of the names: the tables' words, and 'selects' of the private methods out of them =====
/-- a private method of a class that the tables say can be made, by its rows of tables_1 -/
def lw_okq (q : MethodName × Nat) : Prop := (q.1.cls ≠ "java/lang/invoke/MethodHandle" ∧ q.1.cls ≠ "java/lang/invoke/VarHandle") ∧ Cond.instantiable q.1.cls q.2 ∈ tables_1 ∧ Cond.privateMethod q.1 ∈ tables_1 ∧ Cond.instanceMethod q.1 ∈ tables_1
theorem lw_p0 : lw_okq (⟨"PieceStore$Vault", "begin", "(LPieceStore$Rules;)V"⟩, 19) := ⟨⟨by decide +kernel, by decide +kernel⟩, List.mem_of_getElem? (i := 184) (by decide +kernel), List.mem_of_getElem? (i := 411) (by decide +kernel), List.mem_of_getElem? (i := 412) (by decide +kernel)⟩
theorem lw_p1 : lw_okq (⟨"PieceStore", "refuse", "(I)I"⟩, 10) := ⟨⟨by decide +kernel, by decide +kernel⟩, List.mem_of_getElem? (i := 22) (by decide +kernel), List.mem_of_getElem? (i := 591) (by decide +kernel), List.mem_of_getElem? (i := 592) (by decide +kernel)⟩
theorem lw_p2 : lw_okq (⟨"PieceStore", "feedNumber", "(I)V"⟩, 10) := ⟨⟨by decide +kernel, by decide +kernel⟩, List.mem_of_getElem? (i := 22) (by decide +kernel), List.mem_of_getElem? (i := 603) (by decide +kernel), List.mem_of_getElem? (i := 604) (by decide +kernel)⟩
theorem lw_p3 : lw_okq (⟨"PieceStore$Reader", "split", "(LPieceStore$Row;)V"⟩, 13) := ⟨⟨by decide +kernel, by decide +kernel⟩, List.mem_of_getElem? (i := 44) (by decide +kernel), List.mem_of_getElem? (i := 624) (by decide +kernel), List.mem_of_getElem? (i := 625) (by decide +kernel)⟩
theorem lw_p4 : lw_okq (⟨"PieceStore$Reader", "splitWord", "(LPieceStore$Row;I)I"⟩, 13) := ⟨⟨by decide +kernel, by decide +kernel⟩, List.mem_of_getElem? (i := 44) (by decide +kernel), List.mem_of_getElem? (i := 634) (by decide +kernel), List.mem_of_getElem? (i := 635) (by decide +kernel)⟩
theorem lw_p5 : lw_okq (⟨"PieceStore$Reader", "breakOff", "(LPieceStore$Row;II)I"⟩, 13) := ⟨⟨by decide +kernel, by decide +kernel⟩, List.mem_of_getElem? (i := 44) (by decide +kernel), List.mem_of_getElem? (i := 641) (by decide +kernel), List.mem_of_getElem? (i := 642) (by decide +kernel)⟩
theorem lw_p6 : lw_okq (⟨"PieceStore$Reader", "addToken", "(III)V"⟩, 13) := ⟨⟨by decide +kernel, by decide +kernel⟩, List.mem_of_getElem? (i := 44) (by decide +kernel), List.mem_of_getElem? (i := 645) (by decide +kernel), List.mem_of_getElem? (i := 646) (by decide +kernel)⟩
theorem lw_p7 : lw_okq (⟨"PieceStore$Reader", "splitNumber", "(LPieceStore$Row;I)I"⟩, 13) := ⟨⟨by decide +kernel, by decide +kernel⟩, List.mem_of_getElem? (i := 44) (by decide +kernel), List.mem_of_getElem? (i := 654) (by decide +kernel), List.mem_of_getElem? (i := 655) (by decide +kernel)⟩
theorem lw_p8 : lw_okq (⟨"PieceStore$Reader", "goOn", "()V"⟩, 13) := ⟨⟨by decide +kernel, by decide +kernel⟩, List.mem_of_getElem? (i := 44) (by decide +kernel), List.mem_of_getElem? (i := 659) (by decide +kernel), List.mem_of_getElem? (i := 660) (by decide +kernel)⟩
theorem lw_p9 : lw_okq (⟨"PieceStore$Reader", "statement", "(LPieceStore$Rules;)Z"⟩, 13) := ⟨⟨by decide +kernel, by decide +kernel⟩, List.mem_of_getElem? (i := 44) (by decide +kernel), List.mem_of_getElem? (i := 663) (by decide +kernel), List.mem_of_getElem? (i := 664) (by decide +kernel)⟩
theorem lw_p10 : lw_okq (⟨"PieceStore$Reader", "fails", "(II)Z"⟩, 13) := ⟨⟨by decide +kernel, by decide +kernel⟩, List.mem_of_getElem? (i := 44) (by decide +kernel), List.mem_of_getElem? (i := 667) (by decide +kernel), List.mem_of_getElem? (i := 668) (by decide +kernel)⟩
theorem lw_p11 : lw_okq (⟨"PieceStore$Reader", "isWrong", "()Z"⟩, 13) := ⟨⟨by decide +kernel, by decide +kernel⟩, List.mem_of_getElem? (i := 44) (by decide +kernel), List.mem_of_getElem? (i := 671) (by decide +kernel), List.mem_of_getElem? (i := 672) (by decide +kernel)⟩
theorem lw_p12 : lw_okq (⟨"PieceStore$Reader", "tellsNumber", "(LPieceStore$Rules;I)Z"⟩, 13) := ⟨⟨by decide +kernel, by decide +kernel⟩, List.mem_of_getElem? (i := 44) (by decide +kernel), List.mem_of_getElem? (i := 675) (by decide +kernel), List.mem_of_getElem? (i := 676) (by decide +kernel)⟩
theorem lw_p13 : lw_okq (⟨"PieceStore$Reader", "tellsTest", "(LPieceStore$Rules;I)Z"⟩, 13) := ⟨⟨by decide +kernel, by decide +kernel⟩, List.mem_of_getElem? (i := 44) (by decide +kernel), List.mem_of_getElem? (i := 684) (by decide +kernel), List.mem_of_getElem? (i := 685) (by decide +kernel)⟩
theorem lw_p14 : lw_okq (⟨"PieceStore$Reader", "readTest", "()Z"⟩, 13) := ⟨⟨by decide +kernel, by decide +kernel⟩, List.mem_of_getElem? (i := 44) (by decide +kernel), List.mem_of_getElem? (i := 692) (by decide +kernel), List.mem_of_getElem? (i := 693) (by decide +kernel)⟩
theorem lw_p15 : lw_okq (⟨"PieceStore$Reader", "readBoth", "()Z"⟩, 13) := ⟨⟨by decide +kernel, by decide +kernel⟩, List.mem_of_getElem? (i := 44) (by decide +kernel), List.mem_of_getElem? (i := 696) (by decide +kernel), List.mem_of_getElem? (i := 697) (by decide +kernel)⟩
def lw_privs_1 : List (MethodName × Nat) := [(⟨"PieceStore$Vault", "begin", "(LPieceStore$Rules;)V"⟩, 19), (⟨"PieceStore", "refuse", "(I)I"⟩, 10), (⟨"PieceStore", "feedNumber", "(I)V"⟩, 10), (⟨"PieceStore$Reader", "split", "(LPieceStore$Row;)V"⟩, 13), (⟨"PieceStore$Reader", "splitWord", "(LPieceStore$Row;I)I"⟩, 13), (⟨"PieceStore$Reader", "breakOff", "(LPieceStore$Row;II)I"⟩, 13), (⟨"PieceStore$Reader", "addToken", "(III)V"⟩, 13), (⟨"PieceStore$Reader", "splitNumber", "(LPieceStore$Row;I)I"⟩, 13), (⟨"PieceStore$Reader", "goOn", "()V"⟩, 13), (⟨"PieceStore$Reader", "statement", "(LPieceStore$Rules;)Z"⟩, 13), (⟨"PieceStore$Reader", "fails", "(II)Z"⟩, 13), (⟨"PieceStore$Reader", "isWrong", "()Z"⟩, 13), (⟨"PieceStore$Reader", "tellsNumber", "(LPieceStore$Rules;I)Z"⟩, 13), (⟨"PieceStore$Reader", "tellsTest", "(LPieceStore$Rules;I)Z"⟩, 13), (⟨"PieceStore$Reader", "readTest", "()Z"⟩, 13), (⟨"PieceStore$Reader", "readBoth", "()Z"⟩, 13)]
theorem lw_r1 : ∀ q ∈ lw_privs_1, lw_okq q := List.forall_mem_cons.mpr ⟨lw_p0, List.forall_mem_cons.mpr ⟨lw_p1, List.forall_mem_cons.mpr ⟨lw_p2, List.forall_mem_cons.mpr ⟨lw_p3, List.forall_mem_cons.mpr ⟨lw_p4, List.forall_mem_cons.mpr ⟨lw_p5, List.forall_mem_cons.mpr ⟨lw_p6, List.forall_mem_cons.mpr ⟨lw_p7, List.forall_mem_cons.mpr ⟨lw_p8, List.forall_mem_cons.mpr ⟨lw_p9, List.forall_mem_cons.mpr ⟨lw_p10, List.forall_mem_cons.mpr ⟨lw_p11, List.forall_mem_cons.mpr ⟨lw_p12, List.forall_mem_cons.mpr ⟨lw_p13, List.forall_mem_cons.mpr ⟨lw_p14, List.forall_mem_cons.mpr ⟨lw_p15, fun _ h => absurd h List.not_mem_nil⟩⟩⟩⟩⟩⟩⟩⟩⟩⟩⟩⟩⟩⟩⟩⟩
theorem lw_p16 : lw_okq (⟨"PieceStore$Reader", "readFact", "()Z"⟩, 13) := ⟨⟨by decide +kernel, by decide +kernel⟩, List.mem_of_getElem? (i := 44) (by decide +kernel), List.mem_of_getElem? (i := 700) (by decide +kernel), List.mem_of_getElem? (i := 701) (by decide +kernel)⟩
theorem lw_p17 : lw_okq (⟨"PieceStore$Reader", "isWord", "(I)Z"⟩, 13) := ⟨⟨by decide +kernel, by decide +kernel⟩, List.mem_of_getElem? (i := 44) (by decide +kernel), List.mem_of_getElem? (i := 704) (by decide +kernel), List.mem_of_getElem? (i := 705) (by decide +kernel)⟩
theorem lw_p18 : lw_okq (⟨"PieceStore$Reader", "opens", "()Z"⟩, 13) := ⟨⟨by decide +kernel, by decide +kernel⟩, List.mem_of_getElem? (i := 44) (by decide +kernel), List.mem_of_getElem? (i := 708) (by decide +kernel), List.mem_of_getElem? (i := 709) (by decide +kernel)⟩
theorem lw_p19 : lw_okq (⟨"PieceStore$Reader", "closes", "()Z"⟩, 13) := ⟨⟨by decide +kernel, by decide +kernel⟩, List.mem_of_getElem? (i := 44) (by decide +kernel), List.mem_of_getElem? (i := 712) (by decide +kernel), List.mem_of_getElem? (i := 713) (by decide +kernel)⟩
theorem lw_p20 : lw_okq (⟨"PieceStore$Reader", "adds", "(I)Z"⟩, 13) := ⟨⟨by decide +kernel, by decide +kernel⟩, List.mem_of_getElem? (i := 44) (by decide +kernel), List.mem_of_getElem? (i := 716) (by decide +kernel), List.mem_of_getElem? (i := 717) (by decide +kernel)⟩
theorem lw_p21 : lw_okq (⟨"PieceStore$Reader", "isSign", "(I)Z"⟩, 13) := ⟨⟨by decide +kernel, by decide +kernel⟩, List.mem_of_getElem? (i := 44) (by decide +kernel), List.mem_of_getElem? (i := 720) (by decide +kernel), List.mem_of_getElem? (i := 721) (by decide +kernel)⟩
theorem lw_p22 : lw_okq (⟨"PieceStore$Reader", "takes", "(I)Z"⟩, 13) := ⟨⟨by decide +kernel, by decide +kernel⟩, List.mem_of_getElem? (i := 44) (by decide +kernel), List.mem_of_getElem? (i := 724) (by decide +kernel), List.mem_of_getElem? (i := 725) (by decide +kernel)⟩
theorem lw_p23 : lw_okq (⟨"PieceStore$Reader", "readSum", "()Z"⟩, 13) := ⟨⟨by decide +kernel, by decide +kernel⟩, List.mem_of_getElem? (i := 44) (by decide +kernel), List.mem_of_getElem? (i := 728) (by decide +kernel), List.mem_of_getElem? (i := 729) (by decide +kernel)⟩
theorem lw_p24 : lw_okq (⟨"PieceStore$Reader", "readProduct", "()Z"⟩, 13) := ⟨⟨by decide +kernel, by decide +kernel⟩, List.mem_of_getElem? (i := 44) (by decide +kernel), List.mem_of_getElem? (i := 732) (by decide +kernel), List.mem_of_getElem? (i := 733) (by decide +kernel)⟩
theorem lw_p25 : lw_okq (⟨"PieceStore$Reader", "readPart", "()Z"⟩, 13) := ⟨⟨by decide +kernel, by decide +kernel⟩, List.mem_of_getElem? (i := 44) (by decide +kernel), List.mem_of_getElem? (i := 736) (by decide +kernel), List.mem_of_getElem? (i := 737) (by decide +kernel)⟩
theorem lw_p26 : lw_okq (⟨"PieceStore$Reader", "readCall", "(I)Z"⟩, 13) := ⟨⟨by decide +kernel, by decide +kernel⟩, List.mem_of_getElem? (i := 44) (by decide +kernel), List.mem_of_getElem? (i := 740) (by decide +kernel), List.mem_of_getElem? (i := 741) (by decide +kernel)⟩
theorem lw_p27 : lw_okq (⟨"PieceStore$Reader", "isFact", "(I)Z"⟩, 13) := ⟨⟨by decide +kernel, by decide +kernel⟩, List.mem_of_getElem? (i := 44) (by decide +kernel), List.mem_of_getElem? (i := 744) (by decide +kernel), List.mem_of_getElem? (i := 745) (by decide +kernel)⟩
theorem lw_p28 : lw_okq (⟨"PieceStore$Reader", "readComparison", "()Z"⟩, 13) := ⟨⟨by decide +kernel, by decide +kernel⟩, List.mem_of_getElem? (i := 44) (by decide +kernel), List.mem_of_getElem? (i := 748) (by decide +kernel), List.mem_of_getElem? (i := 749) (by decide +kernel)⟩
theorem lw_p29 : lw_okq (⟨"PieceStore$Vault", "markLive", "(I)V"⟩, 19) := ⟨⟨by decide +kernel, by decide +kernel⟩, List.mem_of_getElem? (i := 184) (by decide +kernel), List.mem_of_getElem? (i := 785) (by decide +kernel), List.mem_of_getElem? (i := 786) (by decide +kernel)⟩
theorem lw_p30 : lw_okq (⟨"PieceStore$Vault", "markPieces", "(I)V"⟩, 19) := ⟨⟨by decide +kernel, by decide +kernel⟩, List.mem_of_getElem? (i := 184) (by decide +kernel), List.mem_of_getElem? (i := 790) (by decide +kernel), List.mem_of_getElem? (i := 791) (by decide +kernel)⟩
theorem lw_p31 : lw_okq (⟨"PieceStore$Vault", "isMarkedForCleaning", "(I)Z"⟩, 19) := ⟨⟨by decide +kernel, by decide +kernel⟩, List.mem_of_getElem? (i := 184) (by decide +kernel), List.mem_of_getElem? (i := 851) (by decide +kernel), List.mem_of_getElem? (i := 852) (by decide +kernel)⟩
def lw_privs_2 : List (MethodName × Nat) := [(⟨"PieceStore$Reader", "readFact", "()Z"⟩, 13), (⟨"PieceStore$Reader", "isWord", "(I)Z"⟩, 13), (⟨"PieceStore$Reader", "opens", "()Z"⟩, 13), (⟨"PieceStore$Reader", "closes", "()Z"⟩, 13), (⟨"PieceStore$Reader", "adds", "(I)Z"⟩, 13), (⟨"PieceStore$Reader", "isSign", "(I)Z"⟩, 13), (⟨"PieceStore$Reader", "takes", "(I)Z"⟩, 13), (⟨"PieceStore$Reader", "readSum", "()Z"⟩, 13), (⟨"PieceStore$Reader", "readProduct", "()Z"⟩, 13), (⟨"PieceStore$Reader", "readPart", "()Z"⟩, 13), (⟨"PieceStore$Reader", "readCall", "(I)Z"⟩, 13), (⟨"PieceStore$Reader", "isFact", "(I)Z"⟩, 13), (⟨"PieceStore$Reader", "readComparison", "()Z"⟩, 13), (⟨"PieceStore$Vault", "markLive", "(I)V"⟩, 19), (⟨"PieceStore$Vault", "markPieces", "(I)V"⟩, 19), (⟨"PieceStore$Vault", "isMarkedForCleaning", "(I)Z"⟩, 19)]
theorem lw_r2 : ∀ q ∈ lw_privs_2, lw_okq q := List.forall_mem_cons.mpr ⟨lw_p16, List.forall_mem_cons.mpr ⟨lw_p17, List.forall_mem_cons.mpr ⟨lw_p18, List.forall_mem_cons.mpr ⟨lw_p19, List.forall_mem_cons.mpr ⟨lw_p20, List.forall_mem_cons.mpr ⟨lw_p21, List.forall_mem_cons.mpr ⟨lw_p22, List.forall_mem_cons.mpr ⟨lw_p23, List.forall_mem_cons.mpr ⟨lw_p24, List.forall_mem_cons.mpr ⟨lw_p25, List.forall_mem_cons.mpr ⟨lw_p26, List.forall_mem_cons.mpr ⟨lw_p27, List.forall_mem_cons.mpr ⟨lw_p28, List.forall_mem_cons.mpr ⟨lw_p29, List.forall_mem_cons.mpr ⟨lw_p30, List.forall_mem_cons.mpr ⟨lw_p31, fun _ h => absurd h List.not_mem_nil⟩⟩⟩⟩⟩⟩⟩⟩⟩⟩⟩⟩⟩⟩⟩⟩
theorem lw_p32 : lw_okq (⟨"PieceStore$Vault", "liveBytes", "(II)I"⟩, 19) := ⟨⟨by decide +kernel, by decide +kernel⟩, List.mem_of_getElem? (i := 184) (by decide +kernel), List.mem_of_getElem? (i := 855) (by decide +kernel), List.mem_of_getElem? (i := 856) (by decide +kernel)⟩
theorem lw_p33 : lw_okq (⟨"PieceStore", "takeFile", "()Z"⟩, 10) := ⟨⟨by decide +kernel, by decide +kernel⟩, List.mem_of_getElem? (i := 22) (by decide +kernel), List.mem_of_getElem? (i := 912) (by decide +kernel), List.mem_of_getElem? (i := 913) (by decide +kernel)⟩
theorem lw_p34 : lw_okq (⟨"PieceStore$Forms", "isAt", "(ILPieceStore$Row;I)Z"⟩, 8) := ⟨⟨by decide +kernel, by decide +kernel⟩, List.mem_of_getElem? (i := 256) (by decide +kernel), List.mem_of_getElem? (i := 980) (by decide +kernel), List.mem_of_getElem? (i := 981) (by decide +kernel)⟩
theorem lw_p35 : lw_okq (⟨"PieceStore$Desk", "freePlace", "()I"⟩, 3) := ⟨⟨by decide +kernel, by decide +kernel⟩, List.mem_of_getElem? (i := 512) (by decide +kernel), List.mem_of_getElem? (i := 1010) (by decide +kernel), List.mem_of_getElem? (i := 1011) (by decide +kernel)⟩
theorem lw_p36 : lw_okq (⟨"PieceStore$Desk", "placeToClear", "(II)I"⟩, 3) := ⟨⟨by decide +kernel, by decide +kernel⟩, List.mem_of_getElem? (i := 512) (by decide +kernel), List.mem_of_getElem? (i := 1014) (by decide +kernel), List.mem_of_getElem? (i := 1015) (by decide +kernel)⟩
theorem lw_p37 : lw_okq (⟨"PieceStore$Desk", "isLater", "(III)Z"⟩, 3) := ⟨⟨by decide +kernel, by decide +kernel⟩, List.mem_of_getElem? (i := 512) (by decide +kernel), List.mem_of_getElem? (i := 1018) (by decide +kernel), List.mem_of_getElem? (i := 1019) (by decide +kernel)⟩
theorem lw_p38 : lw_okq (⟨"PieceStore$Desk", "nextVisit", "(II)I"⟩, 3) := ⟨⟨by decide +kernel, by decide +kernel⟩, List.mem_of_getElem? (i := 512) (by decide +kernel), List.mem_of_getElem? (i := 1022) (by decide +kernel), List.mem_of_getElem? (i := 1023) (by decide +kernel)⟩
theorem lw_p39 : lw_okq (⟨"PieceStore", "canPass", "(I)Z"⟩, 10) := ⟨⟨by decide +kernel, by decide +kernel⟩, List.mem_of_getElem? (i := 22) (by decide +kernel), List.mem_of_getElem? (i := 1031) (by decide +kernel), List.mem_of_getElem? (i := 1032) (by decide +kernel)⟩
theorem lw_p40 : lw_okq (⟨"PieceStore$Vault", "copyBox", "(ILPieceStore$State;)V"⟩, 19) := ⟨⟨by decide +kernel, by decide +kernel⟩, List.mem_of_getElem? (i := 184) (by decide +kernel), List.mem_of_getElem? (i := 1059) (by decide +kernel), List.mem_of_getElem? (i := 1060) (by decide +kernel)⟩
theorem lw_p41 : lw_okq (⟨"PieceStore$Vault", "moveLive", "(ILPieceStore$State;)V"⟩, 19) := ⟨⟨by decide +kernel, by decide +kernel⟩, List.mem_of_getElem? (i := 184) (by decide +kernel), List.mem_of_getElem? (i := 1073) (by decide +kernel), List.mem_of_getElem? (i := 1074) (by decide +kernel)⟩
theorem lw_p42 : lw_okq (⟨"PieceStore$Scope", "isMet", "(I)Z"⟩, 3) := ⟨⟨by decide +kernel, by decide +kernel⟩, List.mem_of_getElem? (i := 530) (by decide +kernel), List.mem_of_getElem? (i := 1118) (by decide +kernel), List.mem_of_getElem? (i := 1119) (by decide +kernel)⟩
theorem lw_p43 : lw_okq (⟨"PieceStore$Scope", "lengthBy", "(II)I"⟩, 3) := ⟨⟨by decide +kernel, by decide +kernel⟩, List.mem_of_getElem? (i := 530) (by decide +kernel), List.mem_of_getElem? (i := 1122) (by decide +kernel), List.mem_of_getElem? (i := 1123) (by decide +kernel)⟩
theorem lw_p44 : lw_okq (⟨"PieceStore$Vault", "freeNumber", "()I"⟩, 19) := ⟨⟨by decide +kernel, by decide +kernel⟩, List.mem_of_getElem? (i := 184) (by decide +kernel), List.mem_of_getElem? (i := 1150) (by decide +kernel), List.mem_of_getElem? (i := 1151) (by decide +kernel)⟩
theorem lw_p45 : lw_okq (⟨"PieceStore$Saver", "readPieces", "(LPieceStore$Vault;II)V"⟩, 6) := ⟨⟨by decide +kernel, by decide +kernel⟩, List.mem_of_getElem? (i := 295) (by decide +kernel), List.mem_of_getElem? (i := 1175) (by decide +kernel), List.mem_of_getElem? (i := 1176) (by decide +kernel)⟩
theorem lw_p46 : lw_okq (⟨"PieceStore$Saver", "readHooks", "(LPieceStore$Forms;)V"⟩, 6) := ⟨⟨by decide +kernel, by decide +kernel⟩, List.mem_of_getElem? (i := 295) (by decide +kernel), List.mem_of_getElem? (i := 1195) (by decide +kernel), List.mem_of_getElem? (i := 1196) (by decide +kernel)⟩
theorem lw_p47 : lw_okq (⟨"PieceStore$Saver", "findChampions", "(I)V"⟩, 6) := ⟨⟨by decide +kernel, by decide +kernel⟩, List.mem_of_getElem? (i := 295) (by decide +kernel), List.mem_of_getElem? (i := 1201) (by decide +kernel), List.mem_of_getElem? (i := 1202) (by decide +kernel)⟩
def lw_privs_3 : List (MethodName × Nat) := [(⟨"PieceStore$Vault", "liveBytes", "(II)I"⟩, 19), (⟨"PieceStore", "takeFile", "()Z"⟩, 10), (⟨"PieceStore$Forms", "isAt", "(ILPieceStore$Row;I)Z"⟩, 8), (⟨"PieceStore$Desk", "freePlace", "()I"⟩, 3), (⟨"PieceStore$Desk", "placeToClear", "(II)I"⟩, 3), (⟨"PieceStore$Desk", "isLater", "(III)Z"⟩, 3), (⟨"PieceStore$Desk", "nextVisit", "(II)I"⟩, 3), (⟨"PieceStore", "canPass", "(I)Z"⟩, 10), (⟨"PieceStore$Vault", "copyBox", "(ILPieceStore$State;)V"⟩, 19), (⟨"PieceStore$Vault", "moveLive", "(ILPieceStore$State;)V"⟩, 19), (⟨"PieceStore$Scope", "isMet", "(I)Z"⟩, 3), (⟨"PieceStore$Scope", "lengthBy", "(II)I"⟩, 3), (⟨"PieceStore$Vault", "freeNumber", "()I"⟩, 19), (⟨"PieceStore$Saver", "readPieces", "(LPieceStore$Vault;II)V"⟩, 6), (⟨"PieceStore$Saver", "readHooks", "(LPieceStore$Forms;)V"⟩, 6), (⟨"PieceStore$Saver", "findChampions", "(I)V"⟩, 6)]
theorem lw_r3 : ∀ q ∈ lw_privs_3, lw_okq q := List.forall_mem_cons.mpr ⟨lw_p32, List.forall_mem_cons.mpr ⟨lw_p33, List.forall_mem_cons.mpr ⟨lw_p34, List.forall_mem_cons.mpr ⟨lw_p35, List.forall_mem_cons.mpr ⟨lw_p36, List.forall_mem_cons.mpr ⟨lw_p37, List.forall_mem_cons.mpr ⟨lw_p38, List.forall_mem_cons.mpr ⟨lw_p39, List.forall_mem_cons.mpr ⟨lw_p40, List.forall_mem_cons.mpr ⟨lw_p41, List.forall_mem_cons.mpr ⟨lw_p42, List.forall_mem_cons.mpr ⟨lw_p43, List.forall_mem_cons.mpr ⟨lw_p44, List.forall_mem_cons.mpr ⟨lw_p45, List.forall_mem_cons.mpr ⟨lw_p46, List.forall_mem_cons.mpr ⟨lw_p47, fun _ h => absurd h List.not_mem_nil⟩⟩⟩⟩⟩⟩⟩⟩⟩⟩⟩⟩⟩⟩⟩⟩
theorem lw_p48 : lw_okq (⟨"PieceStore$Saver", "nextChampion", "()I"⟩, 6) := ⟨⟨by decide +kernel, by decide +kernel⟩, List.mem_of_getElem? (i := 295) (by decide +kernel), List.mem_of_getElem? (i := 1205) (by decide +kernel), List.mem_of_getElem? (i := 1206) (by decide +kernel)⟩
theorem lw_p49 : lw_okq (⟨"PieceStore$Saver", "countHooks", "(I)I"⟩, 6) := ⟨⟨by decide +kernel, by decide +kernel⟩, List.mem_of_getElem? (i := 295) (by decide +kernel), List.mem_of_getElem? (i := 1209) (by decide +kernel), List.mem_of_getElem? (i := 1210) (by decide +kernel)⟩
theorem lw_p50 : lw_okq (⟨"PieceStore$Saver", "pieceHad", "(LPieceStore$Vault;II)I"⟩, 6) := ⟨⟨by decide +kernel, by decide +kernel⟩, List.mem_of_getElem? (i := 295) (by decide +kernel), List.mem_of_getElem? (i := 1213) (by decide +kernel), List.mem_of_getElem? (i := 1214) (by decide +kernel)⟩
theorem lw_p51 : lw_okq (⟨"PieceStore$Saver", "tellHooks", "(LPieceStore$Vault;II)V"⟩, 6) := ⟨⟨by decide +kernel, by decide +kernel⟩, List.mem_of_getElem? (i := 295) (by decide +kernel), List.mem_of_getElem? (i := 1224) (by decide +kernel), List.mem_of_getElem? (i := 1225) (by decide +kernel)⟩
theorem lw_p52 : lw_okq (⟨"PieceStore$Vault", "draw", "(I)I"⟩, 19) := ⟨⟨by decide +kernel, by decide +kernel⟩, List.mem_of_getElem? (i := 184) (by decide +kernel), List.mem_of_getElem? (i := 1255) (by decide +kernel), List.mem_of_getElem? (i := 1256) (by decide +kernel)⟩
theorem lw_p53 : lw_okq (⟨"PieceStoreModel", "resets", "()V"⟩, 69) := ⟨⟨by decide +kernel, by decide +kernel⟩, List.mem_of_getElem? (i := 1305) (by decide +kernel), List.mem_of_getElem? (i := 1313) (by decide +kernel), List.mem_of_getElem? (i := 1314) (by decide +kernel)⟩
theorem lw_p54 : lw_okq (⟨"PieceStoreModel", "refuses", "(I)I"⟩, 69) := ⟨⟨by decide +kernel, by decide +kernel⟩, List.mem_of_getElem? (i := 1305) (by decide +kernel), List.mem_of_getElem? (i := 1531) (by decide +kernel), List.mem_of_getElem? (i := 1532) (by decide +kernel)⟩
theorem lw_p55 : lw_okq (⟨"PieceStoreModel", "put", "(I)V"⟩, 69) := ⟨⟨by decide +kernel, by decide +kernel⟩, List.mem_of_getElem? (i := 1305) (by decide +kernel), List.mem_of_getElem? (i := 1535) (by decide +kernel), List.mem_of_getElem? (i := 1536) (by decide +kernel)⟩
theorem lw_p56 : lw_okq (⟨"PieceStoreModel", "tellsUsual", "()V"⟩, 69) := ⟨⟨by decide +kernel, by decide +kernel⟩, List.mem_of_getElem? (i := 1305) (by decide +kernel), List.mem_of_getElem? (i := 1547) (by decide +kernel), List.mem_of_getElem? (i := 1548) (by decide +kernel)⟩
theorem lw_p57 : lw_okq (⟨"PieceStoreModel", "tellsAt", "(II)V"⟩, 69) := ⟨⟨by decide +kernel, by decide +kernel⟩, List.mem_of_getElem? (i := 1305) (by decide +kernel), List.mem_of_getElem? (i := 1551) (by decide +kernel), List.mem_of_getElem? (i := 1552) (by decide +kernel)⟩
theorem lw_p58 : lw_okq (⟨"PieceStoreModel", "ahead", "()V"⟩, 69) := ⟨⟨by decide +kernel, by decide +kernel⟩, List.mem_of_getElem? (i := 1305) (by decide +kernel), List.mem_of_getElem? (i := 1555) (by decide +kernel), List.mem_of_getElem? (i := 1556) (by decide +kernel)⟩
theorem lw_p59 : lw_okq (⟨"PieceStoreModel", "boxing", "()V"⟩, 69) := ⟨⟨by decide +kernel, by decide +kernel⟩, List.mem_of_getElem? (i := 1305) (by decide +kernel), List.mem_of_getElem? (i := 1565) (by decide +kernel), List.mem_of_getElem? (i := 1566) (by decide +kernel)⟩
theorem lw_p60 : lw_okq (⟨"PieceStoreModel", "mustWord", "(J)V"⟩, 69) := ⟨⟨by decide +kernel, by decide +kernel⟩, List.mem_of_getElem? (i := 1305) (by decide +kernel), List.mem_of_getElem? (i := 1570) (by decide +kernel), List.mem_of_getElem? (i := 1571) (by decide +kernel)⟩
theorem lw_p61 : lw_okq (⟨"PieceStoreModel", "lex", "()V"⟩, 69) := ⟨⟨by decide +kernel, by decide +kernel⟩, List.mem_of_getElem? (i := 1305) (by decide +kernel), List.mem_of_getElem? (i := 1574) (by decide +kernel), List.mem_of_getElem? (i := 1575) (by decide +kernel)⟩
theorem lw_p62 : lw_okq (⟨"PieceStoreModel", "blame", "(II)V"⟩, 69) := ⟨⟨by decide +kernel, by decide +kernel⟩, List.mem_of_getElem? (i := 1305) (by decide +kernel), List.mem_of_getElem? (i := 1578) (by decide +kernel), List.mem_of_getElem? (i := 1579) (by decide +kernel)⟩
theorem lw_p63 : lw_okq (⟨"PieceStoreModel", "isWord", "(J)Z"⟩, 69) := ⟨⟨by decide +kernel, by decide +kernel⟩, List.mem_of_getElem? (i := 1305) (by decide +kernel), List.mem_of_getElem? (i := 1582) (by decide +kernel), List.mem_of_getElem? (i := 1583) (by decide +kernel)⟩
def lw_privs_4 : List (MethodName × Nat) := [(⟨"PieceStore$Saver", "nextChampion", "()I"⟩, 6), (⟨"PieceStore$Saver", "countHooks", "(I)I"⟩, 6), (⟨"PieceStore$Saver", "pieceHad", "(LPieceStore$Vault;II)I"⟩, 6), (⟨"PieceStore$Saver", "tellHooks", "(LPieceStore$Vault;II)V"⟩, 6), (⟨"PieceStore$Vault", "draw", "(I)I"⟩, 19), (⟨"PieceStoreModel", "resets", "()V"⟩, 69), (⟨"PieceStoreModel", "refuses", "(I)I"⟩, 69), (⟨"PieceStoreModel", "put", "(I)V"⟩, 69), (⟨"PieceStoreModel", "tellsUsual", "()V"⟩, 69), (⟨"PieceStoreModel", "tellsAt", "(II)V"⟩, 69), (⟨"PieceStoreModel", "ahead", "()V"⟩, 69), (⟨"PieceStoreModel", "boxing", "()V"⟩, 69), (⟨"PieceStoreModel", "mustWord", "(J)V"⟩, 69), (⟨"PieceStoreModel", "lex", "()V"⟩, 69), (⟨"PieceStoreModel", "blame", "(II)V"⟩, 69), (⟨"PieceStoreModel", "isWord", "(J)Z"⟩, 69)]
theorem lw_r4 : ∀ q ∈ lw_privs_4, lw_okq q := List.forall_mem_cons.mpr ⟨lw_p48, List.forall_mem_cons.mpr ⟨lw_p49, List.forall_mem_cons.mpr ⟨lw_p50, List.forall_mem_cons.mpr ⟨lw_p51, List.forall_mem_cons.mpr ⟨lw_p52, List.forall_mem_cons.mpr ⟨lw_p53, List.forall_mem_cons.mpr ⟨lw_p54, List.forall_mem_cons.mpr ⟨lw_p55, List.forall_mem_cons.mpr ⟨lw_p56, List.forall_mem_cons.mpr ⟨lw_p57, List.forall_mem_cons.mpr ⟨lw_p58, List.forall_mem_cons.mpr ⟨lw_p59, List.forall_mem_cons.mpr ⟨lw_p60, List.forall_mem_cons.mpr ⟨lw_p61, List.forall_mem_cons.mpr ⟨lw_p62, List.forall_mem_cons.mpr ⟨lw_p63, fun _ h => absurd h List.not_mem_nil⟩⟩⟩⟩⟩⟩⟩⟩⟩⟩⟩⟩⟩⟩⟩⟩
theorem lw_p64 : lw_okq (⟨"PieceStoreModel", "number", "(II)I"⟩, 69) := ⟨⟨by decide +kernel, by decide +kernel⟩, List.mem_of_getElem? (i := 1305) (by decide +kernel), List.mem_of_getElem? (i := 1586) (by decide +kernel), List.mem_of_getElem? (i := 1587) (by decide +kernel)⟩
theorem lw_p65 : lw_okq (⟨"PieceStoreModel", "finishes", "(I)V"⟩, 69) := ⟨⟨by decide +kernel, by decide +kernel⟩, List.mem_of_getElem? (i := 1305) (by decide +kernel), List.mem_of_getElem? (i := 1593) (by decide +kernel), List.mem_of_getElem? (i := 1594) (by decide +kernel)⟩
theorem lw_p66 : lw_okq (⟨"PieceStoreModel", "isSign", "(I)Z"⟩, 69) := ⟨⟨by decide +kernel, by decide +kernel⟩, List.mem_of_getElem? (i := 1305) (by decide +kernel), List.mem_of_getElem? (i := 1597) (by decide +kernel), List.mem_of_getElem? (i := 1598) (by decide +kernel)⟩
theorem lw_p67 : lw_okq (⟨"PieceStoreModel", "must", "(I)V"⟩, 69) := ⟨⟨by decide +kernel, by decide +kernel⟩, List.mem_of_getElem? (i := 1305) (by decide +kernel), List.mem_of_getElem? (i := 1601) (by decide +kernel), List.mem_of_getElem? (i := 1602) (by decide +kernel)⟩
theorem lw_p68 : lw_okq (⟨"PieceStoreModel", "statement", "()V"⟩, 69) := ⟨⟨by decide +kernel, by decide +kernel⟩, List.mem_of_getElem? (i := 1305) (by decide +kernel), List.mem_of_getElem? (i := 1605) (by decide +kernel), List.mem_of_getElem? (i := 1606) (by decide +kernel)⟩
theorem lw_p69 : lw_okq (⟨"PieceStoreModel", "telling", "(III)V"⟩, 69) := ⟨⟨by decide +kernel, by decide +kernel⟩, List.mem_of_getElem? (i := 1305) (by decide +kernel), List.mem_of_getElem? (i := 1610) (by decide +kernel), List.mem_of_getElem? (i := 1611) (by decide +kernel)⟩
theorem lw_p70 : lw_okq (⟨"PieceStoreModel", "isCounted", "(Z)Z"⟩, 69) := ⟨⟨by decide +kernel, by decide +kernel⟩, List.mem_of_getElem? (i := 1305) (by decide +kernel), List.mem_of_getElem? (i := 1614) (by decide +kernel), List.mem_of_getElem? (i := 1615) (by decide +kernel)⟩
theorem lw_p71 : lw_okq (⟨"PieceStoreModel", "reading", "(I)V"⟩, 69) := ⟨⟨by decide +kernel, by decide +kernel⟩, List.mem_of_getElem? (i := 1305) (by decide +kernel), List.mem_of_getElem? (i := 1627) (by decide +kernel), List.mem_of_getElem? (i := 1628) (by decide +kernel)⟩
theorem lw_p72 : lw_okq (⟨"PieceStoreModel", "reads", "(Z)V"⟩, 69) := ⟨⟨by decide +kernel, by decide +kernel⟩, List.mem_of_getElem? (i := 1305) (by decide +kernel), List.mem_of_getElem? (i := 1631) (by decide +kernel), List.mem_of_getElem? (i := 1632) (by decide +kernel)⟩
theorem lw_p73 : lw_okq (⟨"PieceStoreModel", "pushes", "(I)V"⟩, 69) := ⟨⟨by decide +kernel, by decide +kernel⟩, List.mem_of_getElem? (i := 1305) (by decide +kernel), List.mem_of_getElem? (i := 1635) (by decide +kernel), List.mem_of_getElem? (i := 1636) (by decide +kernel)⟩
theorem lw_p74 : lw_okq (⟨"PieceStoreModel", "operand", "()Z"⟩, 69) := ⟨⟨by decide +kernel, by decide +kernel⟩, List.mem_of_getElem? (i := 1305) (by decide +kernel), List.mem_of_getElem? (i := 1639) (by decide +kernel), List.mem_of_getElem? (i := 1640) (by decide +kernel)⟩
theorem lw_p75 : lw_okq (⟨"PieceStoreModel", "holdsBack", "(I)V"⟩, 69) := ⟨⟨by decide +kernel, by decide +kernel⟩, List.mem_of_getElem? (i := 1305) (by decide +kernel), List.mem_of_getElem? (i := 1647) (by decide +kernel), List.mem_of_getElem? (i := 1648) (by decide +kernel)⟩
theorem lw_p76 : lw_okq (⟨"PieceStoreModel", "opens", "(I)V"⟩, 69) := ⟨⟨by decide +kernel, by decide +kernel⟩, List.mem_of_getElem? (i := 1305) (by decide +kernel), List.mem_of_getElem? (i := 1651) (by decide +kernel), List.mem_of_getElem? (i := 1652) (by decide +kernel)⟩
theorem lw_p77 : lw_okq (⟨"PieceStoreModel", "add", "(II)V"⟩, 69) := ⟨⟨by decide +kernel, by decide +kernel⟩, List.mem_of_getElem? (i := 1305) (by decide +kernel), List.mem_of_getElem? (i := 1656) (by decide +kernel), List.mem_of_getElem? (i := 1657) (by decide +kernel)⟩
theorem lw_p78 : lw_okq (⟨"PieceStoreModel", "goesOn", "()Z"⟩, 69) := ⟨⟨by decide +kernel, by decide +kernel⟩, List.mem_of_getElem? (i := 1305) (by decide +kernel), List.mem_of_getElem? (i := 1672) (by decide +kernel), List.mem_of_getElem? (i := 1673) (by decide +kernel)⟩
theorem lw_p79 : lw_okq (⟨"PieceStoreModel", "joins", "(I)V"⟩, 69) := ⟨⟨by decide +kernel, by decide +kernel⟩, List.mem_of_getElem? (i := 1305) (by decide +kernel), List.mem_of_getElem? (i := 1676) (by decide +kernel), List.mem_of_getElem? (i := 1677) (by decide +kernel)⟩
def lw_privs_5 : List (MethodName × Nat) := [(⟨"PieceStoreModel", "number", "(II)I"⟩, 69), (⟨"PieceStoreModel", "finishes", "(I)V"⟩, 69), (⟨"PieceStoreModel", "isSign", "(I)Z"⟩, 69), (⟨"PieceStoreModel", "must", "(I)V"⟩, 69), (⟨"PieceStoreModel", "statement", "()V"⟩, 69), (⟨"PieceStoreModel", "telling", "(III)V"⟩, 69), (⟨"PieceStoreModel", "isCounted", "(Z)Z"⟩, 69), (⟨"PieceStoreModel", "reading", "(I)V"⟩, 69), (⟨"PieceStoreModel", "reads", "(Z)V"⟩, 69), (⟨"PieceStoreModel", "pushes", "(I)V"⟩, 69), (⟨"PieceStoreModel", "operand", "()Z"⟩, 69), (⟨"PieceStoreModel", "holdsBack", "(I)V"⟩, 69), (⟨"PieceStoreModel", "opens", "(I)V"⟩, 69), (⟨"PieceStoreModel", "add", "(II)V"⟩, 69), (⟨"PieceStoreModel", "goesOn", "()Z"⟩, 69), (⟨"PieceStoreModel", "joins", "(I)V"⟩, 69)]
theorem lw_r5 : ∀ q ∈ lw_privs_5, lw_okq q := List.forall_mem_cons.mpr ⟨lw_p64, List.forall_mem_cons.mpr ⟨lw_p65, List.forall_mem_cons.mpr ⟨lw_p66, List.forall_mem_cons.mpr ⟨lw_p67, List.forall_mem_cons.mpr ⟨lw_p68, List.forall_mem_cons.mpr ⟨lw_p69, List.forall_mem_cons.mpr ⟨lw_p70, List.forall_mem_cons.mpr ⟨lw_p71, List.forall_mem_cons.mpr ⟨lw_p72, List.forall_mem_cons.mpr ⟨lw_p73, List.forall_mem_cons.mpr ⟨lw_p74, List.forall_mem_cons.mpr ⟨lw_p75, List.forall_mem_cons.mpr ⟨lw_p76, List.forall_mem_cons.mpr ⟨lw_p77, List.forall_mem_cons.mpr ⟨lw_p78, List.forall_mem_cons.mpr ⟨lw_p79, fun _ h => absurd h List.not_mem_nil⟩⟩⟩⟩⟩⟩⟩⟩⟩⟩⟩⟩⟩⟩⟩⟩
theorem lw_p80 : lw_okq (⟨"PieceStoreModel", "takesBack", "(I)V"⟩, 69) := ⟨⟨by decide +kernel, by decide +kernel⟩, List.mem_of_getElem? (i := 1305) (by decide +kernel), List.mem_of_getElem? (i := 1699) (by decide +kernel), List.mem_of_getElem? (i := 1700) (by decide +kernel)⟩
theorem lw_p81 : lw_okq (⟨"PieceStoreModel", "isFile", "()Z"⟩, 69) := ⟨⟨by decide +kernel, by decide +kernel⟩, List.mem_of_getElem? (i := 1305) (by decide +kernel), List.mem_of_getElem? (i := 1707) (by decide +kernel), List.mem_of_getElem? (i := 1708) (by decide +kernel)⟩
theorem lw_p82 : lw_okq (⟨"PieceStoreModel", "isBackup", "(I)Z"⟩, 69) := ⟨⟨by decide +kernel, by decide +kernel⟩, List.mem_of_getElem? (i := 1305) (by decide +kernel), List.mem_of_getElem? (i := 1711) (by decide +kernel), List.mem_of_getElem? (i := 1712) (by decide +kernel)⟩
theorem lw_p83 : lw_okq (⟨"PieceStoreModel", "by", "(I)I"⟩, 69) := ⟨⟨by decide +kernel, by decide +kernel⟩, List.mem_of_getElem? (i := 1305) (by decide +kernel), List.mem_of_getElem? (i := 1715) (by decide +kernel), List.mem_of_getElem? (i := 1716) (by decide +kernel)⟩
theorem lw_p84 : lw_okq (⟨"PieceStoreModel", "cutsBy", "(I)V"⟩, 69) := ⟨⟨by decide +kernel, by decide +kernel⟩, List.mem_of_getElem? (i := 1305) (by decide +kernel), List.mem_of_getElem? (i := 1719) (by decide +kernel), List.mem_of_getElem? (i := 1720) (by decide +kernel)⟩
theorem lw_p85 : lw_okq (⟨"PieceStoreModel", "isBorder", "(III)Z"⟩, 69) := ⟨⟨by decide +kernel, by decide +kernel⟩, List.mem_of_getElem? (i := 1305) (by decide +kernel), List.mem_of_getElem? (i := 1723) (by decide +kernel), List.mem_of_getElem? (i := 1724) (by decide +kernel)⟩
theorem lw_p86 : lw_okq (⟨"PieceStoreModel", "rolling", "(II)I"⟩, 69) := ⟨⟨by decide +kernel, by decide +kernel⟩, List.mem_of_getElem? (i := 1305) (by decide +kernel), List.mem_of_getElem? (i := 1727) (by decide +kernel), List.mem_of_getElem? (i := 1728) (by decide +kernel)⟩
theorem lw_p87 : lw_okq (⟨"PieceStoreModel", "isTold", "(I)Z"⟩, 69) := ⟨⟨by decide +kernel, by decide +kernel⟩, List.mem_of_getElem? (i := 1305) (by decide +kernel), List.mem_of_getElem? (i := 1731) (by decide +kernel), List.mem_of_getElem? (i := 1732) (by decide +kernel)⟩
theorem lw_p88 : lw_okq (⟨"PieceStoreModel", "holds", "(I)Z"⟩, 69) := ⟨⟨by decide +kernel, by decide +kernel⟩, List.mem_of_getElem? (i := 1305) (by decide +kernel), List.mem_of_getElem? (i := 1735) (by decide +kernel), List.mem_of_getElem? (i := 1736) (by decide +kernel)⟩
theorem lw_p89 : lw_okq (⟨"PieceStoreModel", "stored", "()I"⟩, 69) := ⟨⟨by decide +kernel, by decide +kernel⟩, List.mem_of_getElem? (i := 1305) (by decide +kernel), List.mem_of_getElem? (i := 1750) (by decide +kernel), List.mem_of_getElem? (i := 1751) (by decide +kernel)⟩
theorem lw_p90 : lw_okq (⟨"PieceStoreModel", "isThere", "(I)Z"⟩, 69) := ⟨⟨by decide +kernel, by decide +kernel⟩, List.mem_of_getElem? (i := 1305) (by decide +kernel), List.mem_of_getElem? (i := 1754) (by decide +kernel), List.mem_of_getElem? (i := 1755) (by decide +kernel)⟩
theorem lw_p91 : lw_okq (⟨"PieceStoreModel", "keeps", "()V"⟩, 69) := ⟨⟨by decide +kernel, by decide +kernel⟩, List.mem_of_getElem? (i := 1305) (by decide +kernel), List.mem_of_getElem? (i := 1758) (by decide +kernel), List.mem_of_getElem? (i := 1759) (by decide +kernel)⟩
theorem lw_p92 : lw_okq (⟨"PieceStoreModel", "savesSegment", "(II)I"⟩, 69) := ⟨⟨by decide +kernel, by decide +kernel⟩, List.mem_of_getElem? (i := 1305) (by decide +kernel), List.mem_of_getElem? (i := 1762) (by decide +kernel), List.mem_of_getElem? (i := 1763) (by decide +kernel)⟩
theorem lw_p93 : lw_okq (⟨"PieceStoreModel", "hooksOf", "(II)V"⟩, 69) := ⟨⟨by decide +kernel, by decide +kernel⟩, List.mem_of_getElem? (i := 1305) (by decide +kernel), List.mem_of_getElem? (i := 1766) (by decide +kernel), List.mem_of_getElem? (i := 1767) (by decide +kernel)⟩
theorem lw_p94 : lw_okq (⟨"PieceStoreModel", "isHook", "(I)Z"⟩, 69) := ⟨⟨by decide +kernel, by decide +kernel⟩, List.mem_of_getElem? (i := 1305) (by decide +kernel), List.mem_of_getElem? (i := 1770) (by decide +kernel), List.mem_of_getElem? (i := 1771) (by decide +kernel)⟩
theorem lw_p95 : lw_okq (⟨"PieceStoreModel", "printAt", "(I)I"⟩, 69) := ⟨⟨by decide +kernel, by decide +kernel⟩, List.mem_of_getElem? (i := 1305) (by decide +kernel), List.mem_of_getElem? (i := 1774) (by decide +kernel), List.mem_of_getElem? (i := 1775) (by decide +kernel)⟩
def lw_privs_6 : List (MethodName × Nat) := [(⟨"PieceStoreModel", "takesBack", "(I)V"⟩, 69), (⟨"PieceStoreModel", "isFile", "()Z"⟩, 69), (⟨"PieceStoreModel", "isBackup", "(I)Z"⟩, 69), (⟨"PieceStoreModel", "by", "(I)I"⟩, 69), (⟨"PieceStoreModel", "cutsBy", "(I)V"⟩, 69), (⟨"PieceStoreModel", "isBorder", "(III)Z"⟩, 69), (⟨"PieceStoreModel", "rolling", "(II)I"⟩, 69), (⟨"PieceStoreModel", "isTold", "(I)Z"⟩, 69), (⟨"PieceStoreModel", "holds", "(I)Z"⟩, 69), (⟨"PieceStoreModel", "stored", "()I"⟩, 69), (⟨"PieceStoreModel", "isThere", "(I)Z"⟩, 69), (⟨"PieceStoreModel", "keeps", "()V"⟩, 69), (⟨"PieceStoreModel", "savesSegment", "(II)I"⟩, 69), (⟨"PieceStoreModel", "hooksOf", "(II)V"⟩, 69), (⟨"PieceStoreModel", "isHook", "(I)Z"⟩, 69), (⟨"PieceStoreModel", "printAt", "(I)I"⟩, 69)]
theorem lw_r6 : ∀ q ∈ lw_privs_6, lw_okq q := List.forall_mem_cons.mpr ⟨lw_p80, List.forall_mem_cons.mpr ⟨lw_p81, List.forall_mem_cons.mpr ⟨lw_p82, List.forall_mem_cons.mpr ⟨lw_p83, List.forall_mem_cons.mpr ⟨lw_p84, List.forall_mem_cons.mpr ⟨lw_p85, List.forall_mem_cons.mpr ⟨lw_p86, List.forall_mem_cons.mpr ⟨lw_p87, List.forall_mem_cons.mpr ⟨lw_p88, List.forall_mem_cons.mpr ⟨lw_p89, List.forall_mem_cons.mpr ⟨lw_p90, List.forall_mem_cons.mpr ⟨lw_p91, List.forall_mem_cons.mpr ⟨lw_p92, List.forall_mem_cons.mpr ⟨lw_p93, List.forall_mem_cons.mpr ⟨lw_p94, List.forall_mem_cons.mpr ⟨lw_p95, fun _ h => absurd h List.not_mem_nil⟩⟩⟩⟩⟩⟩⟩⟩⟩⟩⟩⟩⟩⟩⟩⟩
theorem lw_p96 : lw_okq (⟨"PieceStoreModel", "lengthAt", "(I)I"⟩, 69) := ⟨⟨by decide +kernel, by decide +kernel⟩, List.mem_of_getElem? (i := 1305) (by decide +kernel), List.mem_of_getElem? (i := 1781) (by decide +kernel), List.mem_of_getElem? (i := 1782) (by decide +kernel)⟩
theorem lw_p97 : lw_okq (⟨"PieceStoreModel", "areLike", "(II)Z"⟩, 69) := ⟨⟨by decide +kernel, by decide +kernel⟩, List.mem_of_getElem? (i := 1305) (by decide +kernel), List.mem_of_getElem? (i := 1785) (by decide +kernel), List.mem_of_getElem? (i := 1786) (by decide +kernel)⟩
theorem lw_p98 : lw_okq (⟨"PieceStoreModel", "hookLike", "(I)I"⟩, 69) := ⟨⟨by decide +kernel, by decide +kernel⟩, List.mem_of_getElem? (i := 1305) (by decide +kernel), List.mem_of_getElem? (i := 1789) (by decide +kernel), List.mem_of_getElem? (i := 1790) (by decide +kernel)⟩
theorem lw_p99 : lw_okq (⟨"PieceStoreModel", "isLike", "(II)Z"⟩, 69) := ⟨⟨by decide +kernel, by decide +kernel⟩, List.mem_of_getElem? (i := 1305) (by decide +kernel), List.mem_of_getElem? (i := 1793) (by decide +kernel), List.mem_of_getElem? (i := 1794) (by decide +kernel)⟩
theorem lw_p100 : lw_okq (⟨"PieceStoreModel", "findsChampions", "(I)V"⟩, 69) := ⟨⟨by decide +kernel, by decide +kernel⟩, List.mem_of_getElem? (i := 1305) (by decide +kernel), List.mem_of_getElem? (i := 1797) (by decide +kernel), List.mem_of_getElem? (i := 1798) (by decide +kernel)⟩
theorem lw_p101 : lw_okq (⟨"PieceStoreModel", "isChampion", "(I)Z"⟩, 69) := ⟨⟨by decide +kernel, by decide +kernel⟩, List.mem_of_getElem? (i := 1305) (by decide +kernel), List.mem_of_getElem? (i := 1801) (by decide +kernel), List.mem_of_getElem? (i := 1802) (by decide +kernel)⟩
theorem lw_p102 : lw_okq (⟨"PieceStoreModel", "hooksFor", "(II)I"⟩, 69) := ⟨⟨by decide +kernel, by decide +kernel⟩, List.mem_of_getElem? (i := 1305) (by decide +kernel), List.mem_of_getElem? (i := 1805) (by decide +kernel), List.mem_of_getElem? (i := 1806) (by decide +kernel)⟩
theorem lw_p103 : lw_okq (⟨"PieceStoreModel", "had", "(II)I"⟩, 69) := ⟨⟨by decide +kernel, by decide +kernel⟩, List.mem_of_getElem? (i := 1305) (by decide +kernel), List.mem_of_getElem? (i := 1809) (by decide +kernel), List.mem_of_getElem? (i := 1810) (by decide +kernel)⟩
theorem lw_p104 : lw_okq (⟨"PieceStoreModel", "writes", "(I)I"⟩, 69) := ⟨⟨by decide +kernel, by decide +kernel⟩, List.mem_of_getElem? (i := 1305) (by decide +kernel), List.mem_of_getElem? (i := 1813) (by decide +kernel), List.mem_of_getElem? (i := 1814) (by decide +kernel)⟩
theorem lw_p105 : lw_okq (⟨"PieceStoreModel", "puts", "(II)V"⟩, 69) := ⟨⟨by decide +kernel, by decide +kernel⟩, List.mem_of_getElem? (i := 1305) (by decide +kernel), List.mem_of_getElem? (i := 1817) (by decide +kernel), List.mem_of_getElem? (i := 1818) (by decide +kernel)⟩
theorem lw_p106 : lw_okq (⟨"PieceStoreModel", "lays", "(I)V"⟩, 69) := ⟨⟨by decide +kernel, by decide +kernel⟩, List.mem_of_getElem? (i := 1305) (by decide +kernel), List.mem_of_getElem? (i := 1821) (by decide +kernel), List.mem_of_getElem? (i := 1822) (by decide +kernel)⟩
theorem lw_p107 : lw_okq (⟨"PieceStoreModel", "bytesIn", "(I)I"⟩, 69) := ⟨⟨by decide +kernel, by decide +kernel⟩, List.mem_of_getElem? (i := 1305) (by decide +kernel), List.mem_of_getElem? (i := 1825) (by decide +kernel), List.mem_of_getElem? (i := 1826) (by decide +kernel)⟩
theorem lw_p108 : lw_okq (⟨"PieceStoreModel", "boxOf", "(I)I"⟩, 69) := ⟨⟨by decide +kernel, by decide +kernel⟩, List.mem_of_getElem? (i := 1305) (by decide +kernel), List.mem_of_getElem? (i := 1829) (by decide +kernel), List.mem_of_getElem? (i := 1830) (by decide +kernel)⟩
theorem lw_p109 : lw_okq (⟨"PieceStoreModel", "piecesIn", "(I)I"⟩, 69) := ⟨⟨by decide +kernel, by decide +kernel⟩, List.mem_of_getElem? (i := 1305) (by decide +kernel), List.mem_of_getElem? (i := 1833) (by decide +kernel), List.mem_of_getElem? (i := 1834) (by decide +kernel)⟩
theorem lw_p110 : lw_okq (⟨"PieceStoreModel", "writesDown", "(II)V"⟩, 69) := ⟨⟨by decide +kernel, by decide +kernel⟩, List.mem_of_getElem? (i := 1305) (by decide +kernel), List.mem_of_getElem? (i := 1837) (by decide +kernel), List.mem_of_getElem? (i := 1838) (by decide +kernel)⟩
theorem lw_p111 : lw_okq (⟨"PieceStoreModel", "backups", "()I"⟩, 69) := ⟨⟨by decide +kernel, by decide +kernel⟩, List.mem_of_getElem? (i := 1305) (by decide +kernel), List.mem_of_getElem? (i := 1845) (by decide +kernel), List.mem_of_getElem? (i := 1846) (by decide +kernel)⟩
def lw_privs_7 : List (MethodName × Nat) := [(⟨"PieceStoreModel", "lengthAt", "(I)I"⟩, 69), (⟨"PieceStoreModel", "areLike", "(II)Z"⟩, 69), (⟨"PieceStoreModel", "hookLike", "(I)I"⟩, 69), (⟨"PieceStoreModel", "isLike", "(II)Z"⟩, 69), (⟨"PieceStoreModel", "findsChampions", "(I)V"⟩, 69), (⟨"PieceStoreModel", "isChampion", "(I)Z"⟩, 69), (⟨"PieceStoreModel", "hooksFor", "(II)I"⟩, 69), (⟨"PieceStoreModel", "had", "(II)I"⟩, 69), (⟨"PieceStoreModel", "writes", "(I)I"⟩, 69), (⟨"PieceStoreModel", "puts", "(II)V"⟩, 69), (⟨"PieceStoreModel", "lays", "(I)V"⟩, 69), (⟨"PieceStoreModel", "bytesIn", "(I)I"⟩, 69), (⟨"PieceStoreModel", "boxOf", "(I)I"⟩, 69), (⟨"PieceStoreModel", "piecesIn", "(I)I"⟩, 69), (⟨"PieceStoreModel", "writesDown", "(II)V"⟩, 69), (⟨"PieceStoreModel", "backups", "()I"⟩, 69)]
theorem lw_r7 : ∀ q ∈ lw_privs_7, lw_okq q := List.forall_mem_cons.mpr ⟨lw_p96, List.forall_mem_cons.mpr ⟨lw_p97, List.forall_mem_cons.mpr ⟨lw_p98, List.forall_mem_cons.mpr ⟨lw_p99, List.forall_mem_cons.mpr ⟨lw_p100, List.forall_mem_cons.mpr ⟨lw_p101, List.forall_mem_cons.mpr ⟨lw_p102, List.forall_mem_cons.mpr ⟨lw_p103, List.forall_mem_cons.mpr ⟨lw_p104, List.forall_mem_cons.mpr ⟨lw_p105, List.forall_mem_cons.mpr ⟨lw_p106, List.forall_mem_cons.mpr ⟨lw_p107, List.forall_mem_cons.mpr ⟨lw_p108, List.forall_mem_cons.mpr ⟨lw_p109, List.forall_mem_cons.mpr ⟨lw_p110, List.forall_mem_cons.mpr ⟨lw_p111, fun _ h => absurd h List.not_mem_nil⟩⟩⟩⟩⟩⟩⟩⟩⟩⟩⟩⟩⟩⟩⟩⟩
theorem lw_p112 : lw_okq (⟨"PieceStoreModel", "living", "(I)I"⟩, 69) := ⟨⟨by decide +kernel, by decide +kernel⟩, List.mem_of_getElem? (i := 1305) (by decide +kernel), List.mem_of_getElem? (i := 1849) (by decide +kernel), List.mem_of_getElem? (i := 1850) (by decide +kernel)⟩
theorem lw_p113 : lw_okq (⟨"PieceStoreModel", "enlivens", "()V"⟩, 69) := ⟨⟨by decide +kernel, by decide +kernel⟩, List.mem_of_getElem? (i := 1305) (by decide +kernel), List.mem_of_getElem? (i := 1853) (by decide +kernel), List.mem_of_getElem? (i := 1854) (by decide +kernel)⟩
theorem lw_p114 : lw_okq (⟨"PieceStoreModel", "manyOf", "(I)I"⟩, 69) := ⟨⟨by decide +kernel, by decide +kernel⟩, List.mem_of_getElem? (i := 1305) (by decide +kernel), List.mem_of_getElem? (i := 1857) (by decide +kernel), List.mem_of_getElem? (i := 1858) (by decide +kernel)⟩
theorem lw_p115 : lw_okq (⟨"PieceStoreModel", "pieceOf", "(II)I"⟩, 69) := ⟨⟨by decide +kernel, by decide +kernel⟩, List.mem_of_getElem? (i := 1305) (by decide +kernel), List.mem_of_getElem? (i := 1861) (by decide +kernel), List.mem_of_getElem? (i := 1862) (by decide +kernel)⟩
theorem lw_p116 : lw_okq (⟨"PieceStoreModel", "allBytes", "()I"⟩, 69) := ⟨⟨by decide +kernel, by decide +kernel⟩, List.mem_of_getElem? (i := 1305) (by decide +kernel), List.mem_of_getElem? (i := 1865) (by decide +kernel), List.mem_of_getElem? (i := 1866) (by decide +kernel)⟩
theorem lw_p117 : lw_okq (⟨"PieceStoreModel", "dayOf", "(I)I"⟩, 69) := ⟨⟨by decide +kernel, by decide +kernel⟩, List.mem_of_getElem? (i := 1305) (by decide +kernel), List.mem_of_getElem? (i := 1873) (by decide +kernel), List.mem_of_getElem? (i := 1874) (by decide +kernel)⟩
theorem lw_p118 : lw_okq (⟨"PieceStoreModel", "bytesOf", "(I)I"⟩, 69) := ⟨⟨by decide +kernel, by decide +kernel⟩, List.mem_of_getElem? (i := 1305) (by decide +kernel), List.mem_of_getElem? (i := 1877) (by decide +kernel), List.mem_of_getElem? (i := 1878) (by decide +kernel)⟩
theorem lw_p119 : lw_okq (⟨"PieceStoreModel", "printOf", "(I)I"⟩, 69) := ⟨⟨by decide +kernel, by decide +kernel⟩, List.mem_of_getElem? (i := 1305) (by decide +kernel), List.mem_of_getElem? (i := 1885) (by decide +kernel), List.mem_of_getElem? (i := 1886) (by decide +kernel)⟩
theorem lw_p120 : lw_okq (⟨"PieceStoreModel", "isBroken", "(I)Z"⟩, 69) := ⟨⟨by decide +kernel, by decide +kernel⟩, List.mem_of_getElem? (i := 1305) (by decide +kernel), List.mem_of_getElem? (i := 1893) (by decide +kernel), List.mem_of_getElem? (i := 1894) (by decide +kernel)⟩
theorem lw_p121 : lw_okq (⟨"PieceStoreModel", "isFoul", "(I)Z"⟩, 69) := ⟨⟨by decide +kernel, by decide +kernel⟩, List.mem_of_getElem? (i := 1305) (by decide +kernel), List.mem_of_getElem? (i := 1897) (by decide +kernel), List.mem_of_getElem? (i := 1898) (by decide +kernel)⟩
theorem lw_p122 : lw_okq (⟨"PieceStoreModel", "takes", "(I)V"⟩, 69) := ⟨⟨by decide +kernel, by decide +kernel⟩, List.mem_of_getElem? (i := 1305) (by decide +kernel), List.mem_of_getElem? (i := 1905) (by decide +kernel), List.mem_of_getElem? (i := 1906) (by decide +kernel)⟩
theorem lw_p123 : lw_okq (⟨"PieceStoreModel", "isOfIt", "(III)Z"⟩, 69) := ⟨⟨by decide +kernel, by decide +kernel⟩, List.mem_of_getElem? (i := 1305) (by decide +kernel), List.mem_of_getElem? (i := 1917) (by decide +kernel), List.mem_of_getElem? (i := 1918) (by decide +kernel)⟩
theorem lw_p124 : lw_okq (⟨"PieceStoreModel", "lostAt", "(I)I"⟩, 69) := ⟨⟨by decide +kernel, by decide +kernel⟩, List.mem_of_getElem? (i := 1305) (by decide +kernel), List.mem_of_getElem? (i := 1929) (by decide +kernel), List.mem_of_getElem? (i := 1930) (by decide +kernel)⟩
theorem lw_p125 : lw_okq (⟨"PieceStoreModel", "cleared", "(III)I"⟩, 69) := ⟨⟨by decide +kernel, by decide +kernel⟩, List.mem_of_getElem? (i := 1305) (by decide +kernel), List.mem_of_getElem? (i := 1937) (by decide +kernel), List.mem_of_getElem? (i := 1938) (by decide +kernel)⟩
theorem lw_p126 : lw_okq (⟨"PieceStoreModel", "usedAgain", "(III)I"⟩, 69) := ⟨⟨by decide +kernel, by decide +kernel⟩, List.mem_of_getElem? (i := 1305) (by decide +kernel), List.mem_of_getElem? (i := 1941) (by decide +kernel), List.mem_of_getElem? (i := 1942) (by decide +kernel)⟩
theorem lw_p127 : lw_okq (⟨"PieceStoreModel", "isAhead", "(III)Z"⟩, 69) := ⟨⟨by decide +kernel, by decide +kernel⟩, List.mem_of_getElem? (i := 1305) (by decide +kernel), List.mem_of_getElem? (i := 1950) (by decide +kernel), List.mem_of_getElem? (i := 1951) (by decide +kernel)⟩
def lw_privs_8 : List (MethodName × Nat) := [(⟨"PieceStoreModel", "living", "(I)I"⟩, 69), (⟨"PieceStoreModel", "enlivens", "()V"⟩, 69), (⟨"PieceStoreModel", "manyOf", "(I)I"⟩, 69), (⟨"PieceStoreModel", "pieceOf", "(II)I"⟩, 69), (⟨"PieceStoreModel", "allBytes", "()I"⟩, 69), (⟨"PieceStoreModel", "dayOf", "(I)I"⟩, 69), (⟨"PieceStoreModel", "bytesOf", "(I)I"⟩, 69), (⟨"PieceStoreModel", "printOf", "(I)I"⟩, 69), (⟨"PieceStoreModel", "isBroken", "(I)Z"⟩, 69), (⟨"PieceStoreModel", "isFoul", "(I)Z"⟩, 69), (⟨"PieceStoreModel", "takes", "(I)V"⟩, 69), (⟨"PieceStoreModel", "isOfIt", "(III)Z"⟩, 69), (⟨"PieceStoreModel", "lostAt", "(I)I"⟩, 69), (⟨"PieceStoreModel", "cleared", "(III)I"⟩, 69), (⟨"PieceStoreModel", "usedAgain", "(III)I"⟩, 69), (⟨"PieceStoreModel", "isAhead", "(III)Z"⟩, 69)]
theorem lw_r8 : ∀ q ∈ lw_privs_8, lw_okq q := List.forall_mem_cons.mpr ⟨lw_p112, List.forall_mem_cons.mpr ⟨lw_p113, List.forall_mem_cons.mpr ⟨lw_p114, List.forall_mem_cons.mpr ⟨lw_p115, List.forall_mem_cons.mpr ⟨lw_p116, List.forall_mem_cons.mpr ⟨lw_p117, List.forall_mem_cons.mpr ⟨lw_p118, List.forall_mem_cons.mpr ⟨lw_p119, List.forall_mem_cons.mpr ⟨lw_p120, List.forall_mem_cons.mpr ⟨lw_p121, List.forall_mem_cons.mpr ⟨lw_p122, List.forall_mem_cons.mpr ⟨lw_p123, List.forall_mem_cons.mpr ⟨lw_p124, List.forall_mem_cons.mpr ⟨lw_p125, List.forall_mem_cons.mpr ⟨lw_p126, List.forall_mem_cons.mpr ⟨lw_p127, fun _ h => absurd h List.not_mem_nil⟩⟩⟩⟩⟩⟩⟩⟩⟩⟩⟩⟩⟩⟩⟩⟩
theorem lw_p128 : lw_okq (⟨"PieceStoreModel", "expired", "()I"⟩, 69) := ⟨⟨by decide +kernel, by decide +kernel⟩, List.mem_of_getElem? (i := 1305) (by decide +kernel), List.mem_of_getElem? (i := 1954) (by decide +kernel), List.mem_of_getElem? (i := 1955) (by decide +kernel)⟩
theorem lw_p129 : lw_okq (⟨"PieceStoreModel", "fouls", "()I"⟩, 69) := ⟨⟨by decide +kernel, by decide +kernel⟩, List.mem_of_getElem? (i := 1305) (by decide +kernel), List.mem_of_getElem? (i := 1966) (by decide +kernel), List.mem_of_getElem? (i := 1967) (by decide +kernel)⟩
theorem lw_p130 : lw_okq (⟨"PieceStoreModel", "cleans", "()V"⟩, 69) := ⟨⟨by decide +kernel, by decide +kernel⟩, List.mem_of_getElem? (i := 1305) (by decide +kernel), List.mem_of_getElem? (i := 1970) (by decide +kernel), List.mem_of_getElem? (i := 1971) (by decide +kernel)⟩
theorem lw_p131 : lw_okq (⟨"PieceStoreModel", "collects", "()I"⟩, 69) := ⟨⟨by decide +kernel, by decide +kernel⟩, List.mem_of_getElem? (i := 1305) (by decide +kernel), List.mem_of_getElem? (i := 1974) (by decide +kernel), List.mem_of_getElem? (i := 1975) (by decide +kernel)⟩
theorem lw_p132 : lw_okq (⟨"PieceStoreModel", "isUsing", "(II)Z"⟩, 69) := ⟨⟨by decide +kernel, by decide +kernel⟩, List.mem_of_getElem? (i := 1305) (by decide +kernel), List.mem_of_getElem? (i := 1982) (by decide +kernel), List.mem_of_getElem? (i := 1983) (by decide +kernel)⟩
theorem lw_p133 : lw_okq (⟨"PieceStoreModel", "windowBits", "(I)I"⟩, 69) := ⟨⟨by decide +kernel, by decide +kernel⟩, List.mem_of_getElem? (i := 1305) (by decide +kernel), List.mem_of_getElem? (i := 1994) (by decide +kernel), List.mem_of_getElem? (i := 1995) (by decide +kernel)⟩
theorem lw_p134 : lw_okq (⟨"PieceStoreModel", "draw", "(I)I"⟩, 69) := ⟨⟨by decide +kernel, by decide +kernel⟩, List.mem_of_getElem? (i := 1305) (by decide +kernel), List.mem_of_getElem? (i := 2014) (by decide +kernel), List.mem_of_getElem? (i := 2015) (by decide +kernel)⟩
def lw_privs_9 : List (MethodName × Nat) := [(⟨"PieceStoreModel", "expired", "()I"⟩, 69), (⟨"PieceStoreModel", "fouls", "()I"⟩, 69), (⟨"PieceStoreModel", "cleans", "()V"⟩, 69), (⟨"PieceStoreModel", "collects", "()I"⟩, 69), (⟨"PieceStoreModel", "isUsing", "(II)Z"⟩, 69), (⟨"PieceStoreModel", "windowBits", "(I)I"⟩, 69), (⟨"PieceStoreModel", "draw", "(I)I"⟩, 69)]
theorem lw_r9 : ∀ q ∈ lw_privs_9, lw_okq q := List.forall_mem_cons.mpr ⟨lw_p128, List.forall_mem_cons.mpr ⟨lw_p129, List.forall_mem_cons.mpr ⟨lw_p130, List.forall_mem_cons.mpr ⟨lw_p131, List.forall_mem_cons.mpr ⟨lw_p132, List.forall_mem_cons.mpr ⟨lw_p133, List.forall_mem_cons.mpr ⟨lw_p134, fun _ h => absurd h List.not_mem_nil⟩⟩⟩⟩⟩⟩⟩
def lw_privs : List (MethodName × Nat) := lw_privs_1 ++ (lw_privs_2 ++ (lw_privs_3 ++ (lw_privs_4 ++ (lw_privs_5 ++ (lw_privs_6 ++ (lw_privs_7 ++ (lw_privs_8 ++ (lw_privs_9))))))))
def lw_tbl : List Cond := k2_sels lw_privs ++ tables_1
theorem lw_privs_ok : ∀ q ∈ lw_privs, lw_okq q := by
  show ∀ q ∈ lw_privs_1 ++ (lw_privs_2 ++ (lw_privs_3 ++ (lw_privs_4 ++ (lw_privs_5 ++ (lw_privs_6 ++ (lw_privs_7 ++ (lw_privs_8 ++ (lw_privs_9)))))))), lw_okq q
  exact List.forall_mem_append.mpr ⟨lw_r1, List.forall_mem_append.mpr ⟨lw_r2, List.forall_mem_append.mpr ⟨lw_r3, List.forall_mem_append.mpr ⟨lw_r4, List.forall_mem_append.mpr ⟨lw_r5, List.forall_mem_append.mpr ⟨lw_r6, List.forall_mem_append.mpr ⟨lw_r7, List.forall_mem_append.mpr ⟨lw_r8, lw_r9⟩⟩⟩⟩⟩⟩⟩⟩
-- ===== end of PART A; then your names; then what follows =====
/-! ===== BEGIN words of one list among another's, by their places ===== -/
theorem goodIn_r {big : List Cond} (ws : List Cond) (ps : List Nat) (hp : ws = ps.filterMap (fun i => big[i]?)) (h : ws.all goodWord = true) : GoodIn big ws := by
  intro w hw
  have h1 := List.all_eq_true.mp h w hw
  rw [hp] at hw
  obtain ⟨i, -, hi⟩ := List.mem_filterMap.mp hw
  have hm : w ∈ big := by first | exact List.mem_of_getElem? hi | exact List.getElem?_mem hi
  exact ⟨hm, good_of_word h1⟩
theorem goodIn_app {big a b : List Cond} (ha : GoodIn big a) (hb : GoodIn big b) : GoodIn big (a ++ b) := fun w h => (List.mem_append.mp h).elim (ha w) (hb w)
theorem goodIn_ca {big a b : List Cond} {c : Cond} (ha : GoodIn big (c :: a)) (hb : GoodIn big b) : GoodIn big (c :: (a ++ b)) := fun w h => (List.mem_cons.mp h).elim (fun e => ha w (List.mem_cons.mpr (Or.inl e))) (fun h => (List.mem_append.mp h).elim (fun h => ha w (List.mem_cons.mpr (Or.inr h))) (hb w))
theorem goodIn_sub {big ws : List Cond} (hm : ∀ w ∈ ws, w ∈ big) (h : ws.all goodWord = true) : GoodIn big ws := fun w hw => ⟨hm w hw, good_of_word (List.all_eq_true.mp h w hw)⟩
/-! ===== END ===== -/

/-! ===== BEGIN printed: names, fields, word lists, decode rows ===== -/
def RX0 : String := "PieceStore$Code"
def TX0 : u_T := fun k => match k with
  | 0 => ("PieceStore$Code", "steps", "LPieceStore$Row;", true)
  | _ => ("PieceStore$Code", "stack", "LPieceStore$Row;", true)
def tyX0 : Nat → FieldType := fun k => match k with
  | 0 => .object "PieceStore$Row"
  | _ => .object "PieceStore$Row"
abbrev wsX00 : List Cond := u_ws RX0 TX0 2
theorem nmX0 : ∀ a, a < 2 → ∀ b, b < 2 → a ≠ b → (TX0 a).2.1 ≠ (TX0 b).2.1 := by decide +kernel
theorem tyX0_ok : ∀ k, k < 2 → parseFieldDescriptor (TX0 k).2.2.1 = some (tyX0 k) := by decide +kernel
abbrev cX0_init : ByteArray := prog_2_method_1_code
def yX0_init : MethodName := ⟨RX0, "<init>", "()V"⟩
abbrev cX0_holds : ByteArray := prog_2_method_2_code
def yX0_holds : MethodName := ⟨RX0, "holds", "(LPieceStore$Row;)Z"⟩
abbrev cX0_result : ByteArray := prog_2_method_3_code
def yX0_result : MethodName := ⟨RX0, "result", "(III)I"⟩
abbrev cX0_bounded : ByteArray := prog_2_method_4_code
def yX0_bounded : MethodName := ⟨RX0, "bounded", "(J)I"⟩
def RX1 : String := "PieceStore$Cutter"
def TX1 : u_T := fun k => match k with
  | 0 => ("PieceStore$Cutter", "file", "LPieceStore$Row;", true)
  | _ => ("PieceStore$Cutter", "ends", "LPieceStore$Row;", true)
def tyX1 : Nat → FieldType := fun k => match k with
  | 0 => .object "PieceStore$Row"
  | _ => .object "PieceStore$Row"
abbrev wsX10 : List Cond := u_ws RX1 TX1 2
theorem nmX1 : ∀ a, a < 2 → ∀ b, b < 2 → a ≠ b → (TX1 a).2.1 ≠ (TX1 b).2.1 := by decide +kernel
theorem tyX1_ok : ∀ k, k < 2 → parseFieldDescriptor (TX1 k).2.2.1 = some (tyX1 k) := by decide +kernel
abbrev cX1_init : ByteArray := prog_3_method_1_code
def yX1_init : MethodName := ⟨RX1, "<init>", "()V"⟩
abbrev cX1_cut : ByteArray := prog_3_method_2_code
def yX1_cut : MethodName := ⟨RX1, "cut", "(LPieceStore$Rules;II)V"⟩
abbrev cX1_count : ByteArray := prog_3_method_3_code
def yX1_count : MethodName := ⟨RX1, "count", "()I"⟩
abbrev cX1_firstOf : ByteArray := prog_3_method_4_code
def yX1_firstOf : MethodName := ⟨RX1, "firstOf", "(I)I"⟩
abbrev cX1_lengthOf : ByteArray := prog_3_method_5_code
def yX1_lengthOf : MethodName := ⟨RX1, "lengthOf", "(I)I"⟩
def RX2 : String := "PieceStore$Desk"
def TX2 : u_T := fun k => match k with
  | 0 => ("PieceStore$Desk", "visits", "LPieceStore$Row;", true)
  | 1 => ("PieceStore$Desk", "boxes", "LPieceStore$Row;", true)
  | _ => ("PieceStore$Desk", "used", "LPieceStore$Row;", true)
def tyX2 : Nat → FieldType := fun k => match k with
  | 0 => .object "PieceStore$Row"
  | 1 => .object "PieceStore$Row"
  | _ => .object "PieceStore$Row"
abbrev wsX20 : List Cond := u_ws RX2 TX2 3
theorem nmX2 : ∀ a, a < 3 → ∀ b, b < 3 → a ≠ b → (TX2 a).2.1 ≠ (TX2 b).2.1 := by decide +kernel
theorem tyX2_ok : ∀ k, k < 3 → parseFieldDescriptor (TX2 k).2.2.1 = some (tyX2 k) := by decide +kernel
abbrev cX2_init : ByteArray := prog_4_method_1_code
def yX2_init : MethodName := ⟨RX2, "<init>", "()V"⟩
abbrev cX2_visit : ByteArray := prog_4_method_2_code
def yX2_visit : MethodName := ⟨RX2, "visit", "(LPieceStore$Vault;I)V"⟩
abbrev cX2_count : ByteArray := prog_4_method_3_code
def yX2_count : MethodName := ⟨RX2, "count", "(II)I"⟩
abbrev cX2_freePlace : ByteArray := prog_4_method_4_code
def yX2_freePlace : MethodName := ⟨RX2, "freePlace", "()I"⟩
abbrev cX2_placeToClear : ByteArray := prog_4_method_5_code
def yX2_placeToClear : MethodName := ⟨RX2, "placeToClear", "(II)I"⟩
abbrev cX2_isLater : ByteArray := prog_4_method_6_code
def yX2_isLater : MethodName := ⟨RX2, "isLater", "(III)Z"⟩
abbrev cX2_nextVisit : ByteArray := prog_4_method_7_code
def yX2_nextVisit : MethodName := ⟨RX2, "nextVisit", "(II)I"⟩
def RX3 : String := "PieceStore$Forms"
def TX3 : u_T := fun k => match k with
  | 0 => ("PieceStore$Forms", "bytes", "LPieceStore$Row;", true)
  | 1 => ("PieceStore$Forms", "first", "LPieceStore$Row;", true)
  | 2 => ("PieceStore$Forms", "length", "LPieceStore$Row;", true)
  | 3 => ("PieceStore$Forms", "print", "LPieceStore$Row;", true)
  | 4 => ("PieceStore$Forms", "heads", "LPieceStore$Row;", true)
  | 5 => ("PieceStore$Forms", "next", "LPieceStore$Row;", true)
  | 6 => ("PieceStore$Forms", "told", "LPieceStore$Row;", true)
  | _ => ("PieceStore$Forms", "seen", "LPieceStore$Row;", true)
def tyX3 : Nat → FieldType := fun k => match k with
  | 0 => .object "PieceStore$Row"
  | 1 => .object "PieceStore$Row"
  | 2 => .object "PieceStore$Row"
  | 3 => .object "PieceStore$Row"
  | 4 => .object "PieceStore$Row"
  | 5 => .object "PieceStore$Row"
  | 6 => .object "PieceStore$Row"
  | _ => .object "PieceStore$Row"
abbrev wsX30 : List Cond := u_ws RX3 TX3 8
theorem nmX3 : ∀ a, a < 8 → ∀ b, b < 8 → a ≠ b → (TX3 a).2.1 ≠ (TX3 b).2.1 := by decide +kernel
theorem tyX3_ok : ∀ k, k < 8 → parseFieldDescriptor (TX3 k).2.2.1 = some (tyX3 k) := by decide +kernel
abbrev cX3_init : ByteArray := prog_5_method_1_code
def yX3_init : MethodName := ⟨RX3, "<init>", "()V"⟩
abbrev cX3_clear : ByteArray := prog_5_method_2_code
def yX3_clear : MethodName := ⟨RX3, "clear", "()V"⟩
abbrev cX3_printOf : ByteArray := prog_5_method_3_code
def yX3_printOf : MethodName := ⟨RX3, "printOf", "(LPieceStore$Row;II)I"⟩
abbrev cX3_find : ByteArray := prog_5_method_4_code
def yX3_find : MethodName := ⟨RX3, "find", "(LPieceStore$Row;II)I"⟩
abbrev cX3_isAt : ByteArray := prog_5_method_5_code
def yX3_isAt : MethodName := ⟨RX3, "isAt", "(ILPieceStore$Row;I)Z"⟩
abbrev cX3_findOrAdd : ByteArray := prog_5_method_6_code
def yX3_findOrAdd : MethodName := ⟨RX3, "findOrAdd", "(LPieceStore$Row;II)I"⟩
abbrev cX3_layOut : ByteArray := prog_5_method_7_code
def yX3_layOut : MethodName := ⟨RX3, "layOut", "(ILPieceStore$Row;)V"⟩
def RX4 : String := "PieceStore$Reader"
def TX4 : u_T := fun k => match k with
  | 0 => ("PieceStore$Reader", "words", "LPieceStore$Row;", true)
  | 1 => ("PieceStore$Reader", "kinds", "LPieceStore$Row;", true)
  | 2 => ("PieceStore$Reader", "values", "LPieceStore$Row;", true)
  | 3 => ("PieceStore$Reader", "starts", "LPieceStore$Row;", true)
  | 4 => ("PieceStore$Reader", "token", "I", false)
  | 5 => ("PieceStore$Reader", "kind", "I", false)
  | 6 => ("PieceStore$Reader", "value", "I", false)
  | 7 => ("PieceStore$Reader", "start", "I", false)
  | 8 => ("PieceStore$Reader", "open", "I", false)
  | 9 => ("PieceStore$Reader", "test", "I", false)
  | 10 => ("PieceStore$Reader", "code", "LPieceStore$Code;", false)
  | 11 => ("PieceStore$Reader", "faultKind", "I", false)
  | _ => ("PieceStore$Reader", "faultPlace", "I", false)
def tyX4 : Nat → FieldType := fun k => match k with
  | 0 => .object "PieceStore$Row"
  | 1 => .object "PieceStore$Row"
  | 2 => .object "PieceStore$Row"
  | 3 => .object "PieceStore$Row"
  | 4 => .int
  | 5 => .int
  | 6 => .int
  | 7 => .int
  | 8 => .int
  | 9 => .int
  | 10 => .object "PieceStore$Code"
  | 11 => .int
  | _ => .int
abbrev wsX40 : List Cond := u_ws RX4 TX4 13
theorem nmX4 : ∀ a, a < 13 → ∀ b, b < 13 → a ≠ b → (TX4 a).2.1 ≠ (TX4 b).2.1 := by decide +kernel
theorem tyX4_ok : ∀ k, k < 13 → parseFieldDescriptor (TX4 k).2.2.1 = some (tyX4 k) := by decide +kernel
abbrev cX4_init : ByteArray := prog_6_method_1_code
def yX4_init : MethodName := ⟨RX4, "<init>", "()V"⟩
abbrev cX4_packedWord : ByteArray := prog_6_method_2_code
def yX4_packedWord : MethodName := ⟨RX4, "packedWord", "(I)I"⟩
abbrev cX4_read : ByteArray := prog_6_method_3_code
def yX4_read : MethodName := ⟨RX4, "read", "(LPieceStore$Row;LPieceStore$Rules;)Z"⟩
abbrev cX4_split : ByteArray := prog_6_method_4_code
def yX4_split : MethodName := ⟨RX4, "split", "(LPieceStore$Row;)V"⟩
abbrev cX4_addToken : ByteArray := prog_6_method_5_code
def yX4_addToken : MethodName := ⟨RX4, "addToken", "(III)V"⟩
abbrev cX4_isLetter : ByteArray := prog_6_method_6_code
def yX4_isLetter : MethodName := ⟨RX4, "isLetter", "(I)Z"⟩
abbrev cX4_isDigit : ByteArray := prog_6_method_7_code
def yX4_isDigit : MethodName := ⟨RX4, "isDigit", "(I)Z"⟩
abbrev cX4_breakOff : ByteArray := prog_6_method_8_code
def yX4_breakOff : MethodName := ⟨RX4, "breakOff", "(LPieceStore$Row;II)I"⟩
abbrev cX4_splitWord : ByteArray := prog_6_method_9_code
def yX4_splitWord : MethodName := ⟨RX4, "splitWord", "(LPieceStore$Row;I)I"⟩
abbrev cX4_splitNumber : ByteArray := prog_6_method_10_code
def yX4_splitNumber : MethodName := ⟨RX4, "splitNumber", "(LPieceStore$Row;I)I"⟩
abbrev cX4_goOn : ByteArray := prog_6_method_11_code
def yX4_goOn : MethodName := ⟨RX4, "goOn", "()V"⟩
abbrev cX4_isWord : ByteArray := prog_6_method_12_code
def yX4_isWord : MethodName := ⟨RX4, "isWord", "(I)Z"⟩
abbrev cX4_isSign : ByteArray := prog_6_method_13_code
def yX4_isSign : MethodName := ⟨RX4, "isSign", "(I)Z"⟩
abbrev cX4_fails : ByteArray := prog_6_method_14_code
def yX4_fails : MethodName := ⟨RX4, "fails", "(II)Z"⟩
abbrev cX4_isWrong : ByteArray := prog_6_method_15_code
def yX4_isWrong : MethodName := ⟨RX4, "isWrong", "()Z"⟩
abbrev cX4_takes : ByteArray := prog_6_method_16_code
def yX4_takes : MethodName := ⟨RX4, "takes", "(I)Z"⟩
abbrev cX4_statement : ByteArray := prog_6_method_17_code
def yX4_statement : MethodName := ⟨RX4, "statement", "(LPieceStore$Rules;)Z"⟩
abbrev cX4_tellsNumber : ByteArray := prog_6_method_18_code
def yX4_tellsNumber : MethodName := ⟨RX4, "tellsNumber", "(LPieceStore$Rules;I)Z"⟩
abbrev cX4_tellsTest : ByteArray := prog_6_method_19_code
def yX4_tellsTest : MethodName := ⟨RX4, "tellsTest", "(LPieceStore$Rules;I)Z"⟩
abbrev cX4_opens : ByteArray := prog_6_method_20_code
def yX4_opens : MethodName := ⟨RX4, "opens", "()Z"⟩
abbrev cX4_closes : ByteArray := prog_6_method_21_code
def yX4_closes : MethodName := ⟨RX4, "closes", "()Z"⟩
abbrev cX4_adds : ByteArray := prog_6_method_22_code
def yX4_adds : MethodName := ⟨RX4, "adds", "(I)Z"⟩
abbrev cX4_readTest : ByteArray := prog_6_method_23_code
def yX4_readTest : MethodName := ⟨RX4, "readTest", "()Z"⟩
abbrev cX4_readBoth : ByteArray := prog_6_method_24_code
def yX4_readBoth : MethodName := ⟨RX4, "readBoth", "()Z"⟩
abbrev cX4_readFact : ByteArray := prog_6_method_25_code
def yX4_readFact : MethodName := ⟨RX4, "readFact", "()Z"⟩
abbrev cX4_readComparison : ByteArray := prog_6_method_26_code
def yX4_readComparison : MethodName := ⟨RX4, "readComparison", "()Z"⟩
abbrev cX4_readSum : ByteArray := prog_6_method_27_code
def yX4_readSum : MethodName := ⟨RX4, "readSum", "()Z"⟩
abbrev cX4_readProduct : ByteArray := prog_6_method_28_code
def yX4_readProduct : MethodName := ⟨RX4, "readProduct", "()Z"⟩
abbrev cX4_readPart : ByteArray := prog_6_method_29_code
def yX4_readPart : MethodName := ⟨RX4, "readPart", "()Z"⟩
abbrev cX4_readCall : ByteArray := prog_6_method_30_code
def yX4_readCall : MethodName := ⟨RX4, "readCall", "(I)Z"⟩
abbrev cX4_isFact : ByteArray := prog_6_method_31_code
def yX4_isFact : MethodName := ⟨RX4, "isFact", "(I)Z"⟩
def RX5 : String := "PieceStore$Row"
def TX5 : u_T := fun k => match k with
  | 0 => ("PieceStore$Row", "cells", "[I", false)
  | _ => ("PieceStore$Row", "size", "I", false)
def tyX5 : Nat → FieldType := fun k => match k with
  | 0 => .array .int
  | _ => .int
abbrev wsX50 : List Cond := u_ws RX5 TX5 2
theorem nmX5 : ∀ a, a < 2 → ∀ b, b < 2 → a ≠ b → (TX5 a).2.1 ≠ (TX5 b).2.1 := by decide +kernel
theorem tyX5_ok : ∀ k, k < 2 → parseFieldDescriptor (TX5 k).2.2.1 = some (tyX5 k) := by decide +kernel
abbrev cX5_init : ByteArray := prog_7_method_1_code
def yX5_init : MethodName := ⟨RX5, "<init>", "()V"⟩
abbrev cX5_size : ByteArray := prog_7_method_2_code
def yX5_size : MethodName := ⟨RX5, "size", "()I"⟩
abbrev cX5_at : ByteArray := prog_7_method_3_code
def yX5_at : MethodName := ⟨RX5, "at", "(I)I"⟩
abbrev cX5_put : ByteArray := prog_7_method_4_code
def yX5_put : MethodName := ⟨RX5, "put", "(II)V"⟩
abbrev cX5_add : ByteArray := prog_7_method_5_code
def yX5_add : MethodName := ⟨RX5, "add", "(I)V"⟩
abbrev cX5_pop : ByteArray := prog_7_method_6_code
def yX5_pop : MethodName := ⟨RX5, "pop", "()I"⟩
abbrev cX5_clear : ByteArray := prog_7_method_7_code
def yX5_clear : MethodName := ⟨RX5, "clear", "()V"⟩
abbrev cX5_cutTo : ByteArray := prog_7_method_8_code
def yX5_cutTo : MethodName := ⟨RX5, "cutTo", "(I)V"⟩
abbrev cX5_fill : ByteArray := prog_7_method_9_code
def yX5_fill : MethodName := ⟨RX5, "fill", "(II)V"⟩
abbrev cX5_copyFrom : ByteArray := prog_7_method_10_code
def yX5_copyFrom : MethodName := ⟨RX5, "copyFrom", "(LPieceStore$Row;)V"⟩
abbrev cX5_total : ByteArray := prog_7_method_11_code
def yX5_total : MethodName := ⟨RX5, "total", "()I"⟩
abbrev cX5_indexOf : ByteArray := prog_7_method_12_code
def yX5_indexOf : MethodName := ⟨RX5, "indexOf", "(I)I"⟩
def RX6 : String := "PieceStore$Rules"
def TX6 : u_T := fun k => match k with
  | 0 => ("PieceStore$Rules", "numbers", "LPieceStore$Row;", true)
  | 1 => ("PieceStore$Rules", "border", "LPieceStore$Code;", true)
  | 2 => ("PieceStore$Rules", "hook", "LPieceStore$Code;", true)
  | 3 => ("PieceStore$Rules", "clean", "LPieceStore$Code;", true)
  | 4 => ("PieceStore$Rules", "facts", "LPieceStore$Row;", true)
  | _ => ("PieceStore$Rules", "statements", "I", false)
def tyX6 : Nat → FieldType := fun k => match k with
  | 0 => .object "PieceStore$Row"
  | 1 => .object "PieceStore$Code"
  | 2 => .object "PieceStore$Code"
  | 3 => .object "PieceStore$Code"
  | 4 => .object "PieceStore$Row"
  | _ => .int
abbrev wsX60 : List Cond := u_ws RX6 TX6 6
theorem nmX6 : ∀ a, a < 6 → ∀ b, b < 6 → a ≠ b → (TX6 a).2.1 ≠ (TX6 b).2.1 := by decide +kernel
theorem tyX6_ok : ∀ k, k < 6 → parseFieldDescriptor (TX6 k).2.2.1 = some (tyX6 k) := by decide +kernel
abbrev cX6_init : ByteArray := prog_8_method_1_code
def yX6_init : MethodName := ⟨RX6, "<init>", "()V"⟩
abbrev cX6_begin : ByteArray := prog_8_method_2_code
def yX6_begin : MethodName := ⟨RX6, "begin", "()V"⟩
abbrev cX6_number : ByteArray := prog_8_method_3_code
def yX6_number : MethodName := ⟨RX6, "number", "(I)I"⟩
abbrev cX6_testOf : ByteArray := prog_8_method_4_code
def yX6_testOf : MethodName := ⟨RX6, "testOf", "(I)LPieceStore$Code;"⟩
abbrev cX6_isBorder : ByteArray := prog_8_method_5_code
def yX6_isBorder : MethodName := ⟨RX6, "isBorder", "(IIII)Z"⟩
abbrev cX6_isHook : ByteArray := prog_8_method_6_code
def yX6_isHook : MethodName := ⟨RX6, "isHook", "(IIII)Z"⟩
abbrev cX6_isForCleaning : ByteArray := prog_8_method_7_code
def yX6_isForCleaning : MethodName := ⟨RX6, "isForCleaning", "(IIII)Z"⟩
def RX7 : String := "PieceStore$Saver"
def TX7 : u_T := fun k => match k with
  | 0 => ("PieceStore$Saver", "toldBefore", "LPieceStore$Row;", true)
  | 1 => ("PieceStore$Saver", "segmentForms", "LPieceStore$Row;", true)
  | 2 => ("PieceStore$Saver", "isHook", "LPieceStore$Row;", true)
  | 3 => ("PieceStore$Saver", "hookForms", "LPieceStore$Row;", true)
  | 4 => ("PieceStore$Saver", "hookSegments", "LPieceStore$Row;", true)
  | _ => ("PieceStore$Saver", "champions", "LPieceStore$Row;", true)
def tyX7 : Nat → FieldType := fun k => match k with
  | 0 => .object "PieceStore$Row"
  | 1 => .object "PieceStore$Row"
  | 2 => .object "PieceStore$Row"
  | 3 => .object "PieceStore$Row"
  | 4 => .object "PieceStore$Row"
  | _ => .object "PieceStore$Row"
abbrev wsX70 : List Cond := u_ws RX7 TX7 6
theorem nmX7 : ∀ a, a < 6 → ∀ b, b < 6 → a ≠ b → (TX7 a).2.1 ≠ (TX7 b).2.1 := by decide +kernel
theorem tyX7_ok : ∀ k, k < 6 → parseFieldDescriptor (TX7 k).2.2.1 = some (tyX7 k) := by decide +kernel
abbrev cX7_init : ByteArray := prog_9_method_1_code
def yX7_init : MethodName := ⟨RX7, "<init>", "()V"⟩
abbrev cX7_saveSegment : ByteArray := prog_9_method_2_code
def yX7_saveSegment : MethodName := ⟨RX7, "saveSegment", "(LPieceStore$Vault;II)V"⟩
abbrev cX7_readPieces : ByteArray := prog_9_method_3_code
def yX7_readPieces : MethodName := ⟨RX7, "readPieces", "(LPieceStore$Vault;II)V"⟩
abbrev cX7_readHooks : ByteArray := prog_9_method_4_code
def yX7_readHooks : MethodName := ⟨RX7, "readHooks", "(LPieceStore$Forms;)V"⟩
abbrev cX7_findChampions : ByteArray := prog_9_method_5_code
def yX7_findChampions : MethodName := ⟨RX7, "findChampions", "(I)V"⟩
abbrev cX7_nextChampion : ByteArray := prog_9_method_6_code
def yX7_nextChampion : MethodName := ⟨RX7, "nextChampion", "()I"⟩
abbrev cX7_countHooks : ByteArray := prog_9_method_7_code
def yX7_countHooks : MethodName := ⟨RX7, "countHooks", "(I)I"⟩
abbrev cX7_pieceHad : ByteArray := prog_9_method_8_code
def yX7_pieceHad : MethodName := ⟨RX7, "pieceHad", "(LPieceStore$Vault;II)I"⟩
abbrev cX7_pieceAmong : ByteArray := prog_9_method_9_code
def yX7_pieceAmong : MethodName := ⟨RX7, "pieceAmong", "(LPieceStore$Vault;III)I"⟩
abbrev cX7_tellHooks : ByteArray := prog_9_method_10_code
def yX7_tellHooks : MethodName := ⟨RX7, "tellHooks", "(LPieceStore$Vault;II)V"⟩
abbrev cX7_untell : ByteArray := prog_9_method_11_code
def yX7_untell : MethodName := ⟨RX7, "untell", "(LPieceStore$Vault;I)V"⟩
def RX8 : String := "PieceStore$Scope"
def TX8 : u_T := fun k => match k with
  | 0 => ("PieceStore$Scope", "met", "LPieceStore$Row;", true)
  | 1 => ("PieceStore$Scope", "lengths", "LPieceStore$Row;", true)
  | _ => ("PieceStore$Scope", "counts", "LPieceStore$Row;", true)
def tyX8 : Nat → FieldType := fun k => match k with
  | 0 => .object "PieceStore$Row"
  | 1 => .object "PieceStore$Row"
  | _ => .object "PieceStore$Row"
abbrev wsX80 : List Cond := u_ws RX8 TX8 3
theorem nmX8 : ∀ a, a < 3 → ∀ b, b < 3 → a ≠ b → (TX8 a).2.1 ≠ (TX8 b).2.1 := by decide +kernel
theorem tyX8_ok : ∀ k, k < 3 → parseFieldDescriptor (TX8 k).2.2.1 = some (tyX8 k) := by decide +kernel
abbrev cX8_init : ByteArray := prog_10_method_1_code
def yX8_init : MethodName := ⟨RX8, "<init>", "()V"⟩
abbrev cX8_meetRows : ByteArray := prog_10_method_2_code
def yX8_meetRows : MethodName := ⟨RX8, "meetRows", "(LPieceStore$Row;)Z"⟩
abbrev cX8_windowsLeft : ByteArray := prog_10_method_3_code
def yX8_windowsLeft : MethodName := ⟨RX8, "windowsLeft", "(LPieceStore$Vault;I)I"⟩
abbrev cX8_lengthBy : ByteArray := prog_10_method_4_code
def yX8_lengthBy : MethodName := ⟨RX8, "lengthBy", "(II)I"⟩
abbrev cX8_isMet : ByteArray := prog_10_method_5_code
def yX8_isMet : MethodName := ⟨RX8, "isMet", "(I)Z"⟩
abbrev cX8_telling : ByteArray := prog_10_method_6_code
def yX8_telling : MethodName := ⟨RX8, "telling", "(I)I"⟩
abbrev cX8_worstBy : ByteArray := prog_10_method_7_code
def yX8_worstBy : MethodName := ⟨RX8, "worstBy", "(II)I"⟩
def RX9 : String := "PieceStore$State"
def TX9 : u_T := fun k => match k with
  | 0 => ("PieceStore$State", "piece", "LPieceStore$Row;", true)
  | 1 => ("PieceStore$State", "spoiled", "LPieceStore$Row;", true)
  | 2 => ("PieceStore$State", "boxAt", "LPieceStore$Row;", true)
  | 3 => ("PieceStore$State", "boxFirst", "LPieceStore$Row;", true)
  | 4 => ("PieceStore$State", "boxBytes", "LPieceStore$Row;", true)
  | 5 => ("PieceStore$State", "boxDay", "LPieceStore$Row;", true)
  | 6 => ("PieceStore$State", "broken", "LPieceStore$Row;", true)
  | 7 => ("PieceStore$State", "backupDay", "LPieceStore$Row;", true)
  | 8 => ("PieceStore$State", "backupFirst", "LPieceStore$Row;", true)
  | 9 => ("PieceStore$State", "backupCount", "LPieceStore$Row;", true)
  | 10 => ("PieceStore$State", "day", "I", false)
  | 11 => ("PieceStore$State", "hooks", "I", false)
  | 12 => ("PieceStore$State", "saves", "I", false)
  | 13 => ("PieceStore$State", "uses", "I", false)
  | _ => ("PieceStore$State", "segments", "I", false)
def tyX9 : Nat → FieldType := fun k => match k with
  | 0 => .object "PieceStore$Row"
  | 1 => .object "PieceStore$Row"
  | 2 => .object "PieceStore$Row"
  | 3 => .object "PieceStore$Row"
  | 4 => .object "PieceStore$Row"
  | 5 => .object "PieceStore$Row"
  | 6 => .object "PieceStore$Row"
  | 7 => .object "PieceStore$Row"
  | 8 => .object "PieceStore$Row"
  | 9 => .object "PieceStore$Row"
  | 10 => .int
  | 11 => .int
  | 12 => .int
  | 13 => .int
  | _ => .int
abbrev wsX90 : List Cond := u_ws RX9 TX9 15
theorem nmX9 : ∀ a, a < 15 → ∀ b, b < 15 → a ≠ b → (TX9 a).2.1 ≠ (TX9 b).2.1 := by decide +kernel
theorem tyX9_ok : ∀ k, k < 15 → parseFieldDescriptor (TX9 k).2.2.1 = some (tyX9 k) := by decide +kernel
abbrev cX9_init : ByteArray := prog_11_method_1_code
def yX9_init : MethodName := ⟨RX9, "<init>", "()V"⟩
abbrev cX9_begin : ByteArray := prog_11_method_2_code
def yX9_begin : MethodName := ⟨RX9, "begin", "()V"⟩
abbrev cX9_emptyBoxes : ByteArray := prog_11_method_3_code
def yX9_emptyBoxes : MethodName := ⟨RX9, "emptyBoxes", "()V"⟩
abbrev cX9_copyFrom : ByteArray := prog_11_method_4_code
def yX9_copyFrom : MethodName := ⟨RX9, "copyFrom", "(LPieceStore$State;)V"⟩
abbrev cX9_copyRest : ByteArray := prog_11_method_5_code
def yX9_copyRest : MethodName := ⟨RX9, "copyRest", "(LPieceStore$State;)V"⟩
abbrev cX9_boxEnd : ByteArray := prog_11_method_6_code
def yX9_boxEnd : MethodName := ⟨RX9, "boxEnd", "(I)I"⟩
abbrev cX9_openBox : ByteArray := prog_11_method_7_code
def yX9_openBox : MethodName := ⟨RX9, "openBox", "(II)V"⟩
abbrev cX9_append : ByteArray := prog_11_method_8_code
def yX9_append : MethodName := ⟨RX9, "append", "(III)V"⟩
abbrev cX9_write : ByteArray := prog_11_method_9_code
def yX9_write : MethodName := ⟨RX9, "write", "(IIII)V"⟩
abbrev cX9_dropBackup : ByteArray := prog_11_method_10_code
def yX9_dropBackup : MethodName := ⟨RX9, "dropBackup", "(I)V"⟩
def RX10 : String := "PieceStore$Vault"
def TX10 : u_T := fun k => match k with
  | 0 => ("PieceStore$Vault", "rules", "LPieceStore$Rules;", false)
  | 1 => ("PieceStore$Vault", "cutter", "LPieceStore$Cutter;", true)
  | 2 => ("PieceStore$Vault", "forms", "LPieceStore$Forms;", true)
  | 3 => ("PieceStore$Vault", "saver", "LPieceStore$Saver;", true)
  | 4 => ("PieceStore$Vault", "pieceForm", "LPieceStore$Row;", true)
  | 5 => ("PieceStore$Vault", "pieceSpot", "LPieceStore$Row;", true)
  | 6 => ("PieceStore$Vault", "usePiece", "LPieceStore$Row;", true)
  | 7 => ("PieceStore$Vault", "segmentFirst", "LPieceStore$Row;", true)
  | 8 => ("PieceStore$Vault", "marks", "LPieceStore$Row;", true)
  | 9 => ("PieceStore$Vault", "chosen", "LPieceStore$Row;", true)
  | 10 => ("PieceStore$Vault", "now", "LPieceStore$State;", true)
  | 11 => ("PieceStore$Vault", "other", "LPieceStore$State;", true)
  | 12 => ("PieceStore$Vault", "past", "[LPieceStore$State;", true)
  | 13 => ("PieceStore$Vault", "pastNext", "I", false)
  | 14 => ("PieceStore$Vault", "undoable", "I", false)
  | 15 => ("PieceStore$Vault", "seed", "I", false)
  | 16 => ("PieceStore$Vault", "keptDay", "LPieceStore$Row;", true)
  | 17 => ("PieceStore$Vault", "keptPieces", "LPieceStore$Row;", true)
  | _ => ("PieceStore$Vault", "keptWritten", "LPieceStore$Row;", true)
def tyX10 : Nat → FieldType := fun k => match k with
  | 0 => .object "PieceStore$Rules"
  | 1 => .object "PieceStore$Cutter"
  | 2 => .object "PieceStore$Forms"
  | 3 => .object "PieceStore$Saver"
  | 4 => .object "PieceStore$Row"
  | 5 => .object "PieceStore$Row"
  | 6 => .object "PieceStore$Row"
  | 7 => .object "PieceStore$Row"
  | 8 => .object "PieceStore$Row"
  | 9 => .object "PieceStore$Row"
  | 10 => .object "PieceStore$State"
  | 11 => .object "PieceStore$State"
  | 12 => .array (.object "PieceStore$State")
  | 13 => .int
  | 14 => .int
  | 15 => .int
  | 16 => .object "PieceStore$Row"
  | 17 => .object "PieceStore$Row"
  | _ => .object "PieceStore$Row"
abbrev wsX100 : List Cond := u_ws RX10 TX10 19
theorem nmX10 : ∀ a, a < 19 → ∀ b, b < 19 → a ≠ b → (TX10 a).2.1 ≠ (TX10 b).2.1 := by decide +kernel
theorem tyX10_ok : ∀ k, k < 19 → parseFieldDescriptor (TX10 k).2.2.1 = some (tyX10 k) := by decide +kernel
abbrev cX10_init : ByteArray := prog_12_method_1_code
def yX10_init : MethodName := ⟨RX10, "<init>", "()V"⟩
abbrev cX10_begin : ByteArray := prog_12_method_2_code
def yX10_begin : MethodName := ⟨RX10, "begin", "(LPieceStore$Rules;)V"⟩
abbrev cX10_hasBackup : ByteArray := prog_12_method_3_code
def yX10_hasBackup : MethodName := ⟨RX10, "hasBackup", "(I)Z"⟩
abbrev cX10_spotOf : ByteArray := prog_12_method_4_code
def yX10_spotOf : MethodName := ⟨RX10, "spotOf", "(II)I"⟩
abbrev cX10_formAt : ByteArray := prog_12_method_5_code
def yX10_formAt : MethodName := ⟨RX10, "formAt", "(I)I"⟩
abbrev cX10_lengthAt : ByteArray := prog_12_method_6_code
def yX10_lengthAt : MethodName := ⟨RX10, "lengthAt", "(I)I"⟩
abbrev cX10_printAt : ByteArray := prog_12_method_7_code
def yX10_printAt : MethodName := ⟨RX10, "printAt", "(I)I"⟩
abbrev cX10_bytesOf : ByteArray := prog_12_method_8_code
def yX10_bytesOf : MethodName := ⟨RX10, "bytesOf", "(I)I"⟩
abbrev cX10_layOut : ByteArray := prog_12_method_9_code
def yX10_layOut : MethodName := ⟨RX10, "layOut", "(I)V"⟩
abbrev cX10_cutFile : ByteArray := prog_12_method_10_code
def yX10_cutFile : MethodName := ⟨RX10, "cutFile", "()V"⟩
abbrev cX10_bytesWith : ByteArray := prog_12_method_11_code
def yX10_bytesWith : MethodName := ⟨RX10, "bytesWith", "(II)I"⟩
abbrev cX10_countForeign : ByteArray := prog_12_method_12_code
def yX10_countForeign : MethodName := ⟨RX10, "countForeign", "(I)I"⟩
abbrev cX10_isGone : ByteArray := prog_12_method_13_code
def yX10_isGone : MethodName := ⟨RX10, "isGone", "(II)Z"⟩
abbrev cX10_countBackups : ByteArray := prog_12_method_14_code
def yX10_countBackups : MethodName := ⟨RX10, "countBackups", "(I)I"⟩
abbrev cX10_markPieces : ByteArray := prog_12_method_15_code
def yX10_markPieces : MethodName := ⟨RX10, "markPieces", "(I)V"⟩
abbrev cX10_markLive : ByteArray := prog_12_method_16_code
def yX10_markLive : MethodName := ⟨RX10, "markLive", "(I)V"⟩
abbrev cX10_countLive : ByteArray := prog_12_method_17_code
def yX10_countLive : MethodName := ⟨RX10, "countLive", "(I)I"⟩
abbrev cX10_countLiveBytes : ByteArray := prog_12_method_18_code
def yX10_countLiveBytes : MethodName := ⟨RX10, "countLiveBytes", "(I)I"⟩
abbrev cX10_liveBytes : ByteArray := prog_12_method_19_code
def yX10_liveBytes : MethodName := ⟨RX10, "liveBytes", "(II)I"⟩
abbrev cX10_countLiveIn : ByteArray := prog_12_method_20_code
def yX10_countLiveIn : MethodName := ⟨RX10, "countLiveIn", "(I)I"⟩
abbrev cX10_lostAt : ByteArray := prog_12_method_21_code
def yX10_lostAt : MethodName := ⟨RX10, "lostAt", "(I)I"⟩
abbrev cX10_countBoxesOf : ByteArray := prog_12_method_22_code
def yX10_countBoxesOf : MethodName := ⟨RX10, "countBoxesOf", "(I)I"⟩
abbrev cX10_remember : ByteArray := prog_12_method_23_code
def yX10_remember : MethodName := ⟨RX10, "remember", "()V"⟩
abbrev cX10_goBack : ByteArray := prog_12_method_24_code
def yX10_goBack : MethodName := ⟨RX10, "goBack", "()Z"⟩
abbrev cX10_becomes : ByteArray := prog_12_method_25_code
def yX10_becomes : MethodName := ⟨RX10, "becomes", "(LPieceStore$State;)V"⟩
abbrev cX10_freeNumber : ByteArray := prog_12_method_26_code
def yX10_freeNumber : MethodName := ⟨RX10, "freeNumber", "()I"⟩
abbrev cX10_canSave : ByteArray := prog_12_method_27_code
def yX10_canSave : MethodName := ⟨RX10, "canSave", "()Z"⟩
abbrev cX10_saveFile : ByteArray := prog_12_method_28_code
def yX10_saveFile : MethodName := ⟨RX10, "saveFile", "()I"⟩
abbrev cX10_writePiece : ByteArray := prog_12_method_29_code
def yX10_writePiece : MethodName := ⟨RX10, "writePiece", "(I)I"⟩
abbrev cX10_passDays : ByteArray := prog_12_method_30_code
def yX10_passDays : MethodName := ⟨RX10, "passDays", "(I)I"⟩
abbrev cX10_draw : ByteArray := prog_12_method_31_code
def yX10_draw : MethodName := ⟨RX10, "draw", "(I)I"⟩
abbrev cX10_rotBox : ByteArray := prog_12_method_32_code
def yX10_rotBox : MethodName := ⟨RX10, "rotBox", "()Z"⟩
abbrev cX10_isForCleaning : ByteArray := prog_12_method_33_code
def yX10_isForCleaning : MethodName := ⟨RX10, "isForCleaning", "(I)Z"⟩
abbrev cX10_isMarkedForCleaning : ByteArray := prog_12_method_34_code
def yX10_isMarkedForCleaning : MethodName := ⟨RX10, "isMarkedForCleaning", "(I)Z"⟩
abbrev cX10_cleanInto : ByteArray := prog_12_method_35_code
def yX10_cleanInto : MethodName := ⟨RX10, "cleanInto", "(LPieceStore$State;)I"⟩
abbrev cX10_copyBox : ByteArray := prog_12_method_36_code
def yX10_copyBox : MethodName := ⟨RX10, "copyBox", "(ILPieceStore$State;)V"⟩
abbrev cX10_moveLive : ByteArray := prog_12_method_37_code
def yX10_moveLive : MethodName := ⟨RX10, "moveLive", "(ILPieceStore$State;)V"⟩
def RX11 : String := "PieceStore"
def TX11 : u_T := fun k => match k with
  | 0 => ("PieceStore", "tape", "LPieceStore$Row;", true)
  | 1 => ("PieceStore", "refused", "LPieceStore$Row;", true)
  | 2 => ("PieceStore", "reader", "LPieceStore$Reader;", true)
  | 3 => ("PieceStore", "vault", "LPieceStore$Vault;", true)
  | 4 => ("PieceStore", "desk", "LPieceStore$Desk;", true)
  | 5 => ("PieceStore", "scope", "LPieceStore$Scope;", true)
  | 6 => ("PieceStore", "spare", "LPieceStore$Rules;", false)
  | 7 => ("PieceStore", "stands", "Z", false)
  | 8 => ("PieceStore", "faultKind", "I", false)
  | _ => ("PieceStore", "faultPlace", "I", false)
def tyX11 : Nat → FieldType := fun k => match k with
  | 0 => .object "PieceStore$Row"
  | 1 => .object "PieceStore$Row"
  | 2 => .object "PieceStore$Reader"
  | 3 => .object "PieceStore$Vault"
  | 4 => .object "PieceStore$Desk"
  | 5 => .object "PieceStore$Scope"
  | 6 => .object "PieceStore$Rules"
  | 7 => .boolean
  | 8 => .int
  | _ => .int
abbrev wsX110 : List Cond := u_ws RX11 TX11 10
theorem nmX11 : ∀ a, a < 10 → ∀ b, b < 10 → a ≠ b → (TX11 a).2.1 ≠ (TX11 b).2.1 := by decide +kernel
theorem tyX11_ok : ∀ k, k < 10 → parseFieldDescriptor (TX11 k).2.2.1 = some (tyX11 k) := by decide +kernel
abbrev cX11_init : ByteArray := prog_1_method_1_code
def yX11_init : MethodName := ⟨RX11, "<init>", "()V"⟩
abbrev cX11_feed : ByteArray := prog_1_method_2_code
def yX11_feed : MethodName := ⟨RX11, "feed", "(IIIII)I"⟩
abbrev cX11_end : ByteArray := prog_1_method_3_code
def yX11_end : MethodName := ⟨RX11, "end", "(I)Z"⟩
abbrev cX11_store : ByteArray := prog_1_method_4_code
def yX11_store : MethodName := ⟨RX11, "store", "()I"⟩
abbrev cX11_fault : ByteArray := prog_1_method_5_code
def yX11_fault : MethodName := ⟨RX11, "fault", "(I)I"⟩
abbrev cX11_has : ByteArray := prog_1_method_6_code
def yX11_has : MethodName := ⟨RX11, "has", "(I)I"⟩
abbrev cX11_backup : ByteArray := prog_1_method_7_code
def yX11_backup : MethodName := ⟨RX11, "backup", "(II)I"⟩
abbrev cX11_piece : ByteArray := prog_1_method_8_code
def yX11_piece : MethodName := ⟨RX11, "piece", "(III)I"⟩
abbrev cX11_box : ByteArray := prog_1_method_9_code
def yX11_box : MethodName := ⟨RX11, "box", "(II)I"⟩
abbrev cX11_octet : ByteArray := prog_1_method_10_code
def yX11_octet : MethodName := ⟨RX11, "octet", "(II)I"⟩
abbrev cX11_cuts : ByteArray := prog_1_method_11_code
def yX11_cuts : MethodName := ⟨RX11, "cuts", "(I)I"⟩
abbrev cX11_shared : ByteArray := prog_1_method_12_code
def yX11_shared : MethodName := ⟨RX11, "shared", "(II)I"⟩
abbrev cX11_edit : ByteArray := prog_1_method_13_code
def yX11_edit : MethodName := ⟨RX11, "edit", "(III)I"⟩
abbrev cX11_why : ByteArray := prog_1_method_14_code
def yX11_why : MethodName := ⟨RX11, "why", "(II)I"⟩
abbrev cX11_fetches : ByteArray := prog_1_method_15_code
def yX11_fetches : MethodName := ⟨RX11, "fetches", "(II)I"⟩
abbrev cX11_later : ByteArray := prog_1_method_16_code
def yX11_later : MethodName := ⟨RX11, "later", "(II)I"⟩
abbrev cX11_expires : ByteArray := prog_1_method_17_code
def yX11_expires : MethodName := ⟨RX11, "expires", "(I)I"⟩
abbrev cX11_gain : ByteArray := prog_1_method_18_code
def yX11_gain : MethodName := ⟨RX11, "gain", "(I)I"⟩
abbrev cX11_odds : ByteArray := prog_1_method_19_code
def yX11_odds : MethodName := ⟨RX11, "odds", "(I)I"⟩
abbrev cX11_meet : ByteArray := prog_1_method_20_code
def yX11_meet : MethodName := ⟨RX11, "meet", "()I"⟩
abbrev cX11_windows : ByteArray := prog_1_method_21_code
def yX11_windows : MethodName := ⟨RX11, "windows", "(I)I"⟩
abbrev cX11_tells : ByteArray := prog_1_method_22_code
def yX11_tells : MethodName := ⟨RX11, "tells", "(II)I"⟩
abbrev cX11_save : ByteArray := prog_1_method_23_code
def yX11_save : MethodName := ⟨RX11, "save", "()I"⟩
abbrev cX11_forget : ByteArray := prog_1_method_24_code
def yX11_forget : MethodName := ⟨RX11, "forget", "(I)Z"⟩
abbrev cX11_days : ByteArray := prog_1_method_25_code
def yX11_days : MethodName := ⟨RX11, "days", "(I)I"⟩
abbrev cX11_chance : ByteArray := prog_1_method_26_code
def yX11_chance : MethodName := ⟨RX11, "chance", "(I)I"⟩
abbrev cX11_clean : ByteArray := prog_1_method_27_code
def yX11_clean : MethodName := ⟨RX11, "clean", "()I"⟩
abbrev cX11_spoil : ByteArray := prog_1_method_28_code
def yX11_spoil : MethodName := ⟨RX11, "spoil", "(II)Z"⟩
abbrev cX11_smash : ByteArray := prog_1_method_29_code
def yX11_smash : MethodName := ⟨RX11, "smash", "(I)Z"⟩
abbrev cX11_undo : ByteArray := prog_1_method_30_code
def yX11_undo : MethodName := ⟨RX11, "undo", "()Z"⟩
abbrev cX11_seed : ByteArray := prog_1_method_31_code
def yX11_seed : MethodName := ⟨RX11, "seed", "(I)Z"⟩
abbrev cX11_kept : ByteArray := prog_1_method_32_code
def yX11_kept : MethodName := ⟨RX11, "kept", "(II)I"⟩
abbrev cX11_status : ByteArray := prog_1_method_33_code
def yX11_status : MethodName := ⟨RX11, "status", "(I)I"⟩
abbrev cX11_refuse : ByteArray := prog_1_method_34_code
def yX11_refuse : MethodName := ⟨RX11, "refuse", "(I)I"⟩
abbrev cX11_feedNumber : ByteArray := prog_1_method_35_code
def yX11_feedNumber : MethodName := ⟨RX11, "feedNumber", "(I)V"⟩
abbrev cX11_takeFile : ByteArray := prog_1_method_36_code
def yX11_takeFile : MethodName := ⟨RX11, "takeFile", "()Z"⟩
abbrev cX11_canPass : ByteArray := prog_1_method_37_code
def yX11_canPass : MethodName := ⟨RX11, "canPass", "(I)Z"⟩
def RX12 : String := "PieceStoreModel"
def TX12 : u_T := fun k => match k with
  | 0 => ("PieceStoreModel", "tape", "[I", true)
  | 1 => ("PieceStoreModel", "taped", "I", false)
  | 2 => ("PieceStoreModel", "size", "I", false)
  | 3 => ("PieceStoreModel", "sign", "I", false)
  | 4 => ("PieceStoreModel", "signAt", "I", false)
  | 5 => ("PieceStoreModel", "signEnd", "I", false)
  | 6 => ("PieceStoreModel", "value", "I", false)
  | 7 => ("PieceStoreModel", "word", "J", false)
  | 8 => ("PieceStoreModel", "faultKind", "I", false)
  | 9 => ("PieceStoreModel", "faultPlace", "I", false)
  | 10 => ("PieceStoreModel", "toldKind", "I", false)
  | 11 => ("PieceStoreModel", "toldPlace", "I", false)
  | 12 => ("PieceStoreModel", "lexAt", "I", false)
  | 13 => ("PieceStoreModel", "bank", "I", false)
  | 14 => ("PieceStoreModel", "told", "[I", true)
  | 15 => ("PieceStoreModel", "sumFrom", "[I", true)
  | 16 => ("PieceStoreModel", "sumBehind", "[I", true)
  | 17 => ("PieceStoreModel", "codeSort", "[I", true)
  | 18 => ("PieceStoreModel", "codeValue", "[I", true)
  | 19 => ("PieceStoreModel", "codes", "I", false)
  | 20 => ("PieceStoreModel", "in", "I", false)
  | 21 => ("PieceStoreModel", "law", "I", false)
  | 22 => ("PieceStoreModel", "frame", "[I", true)
  | 23 => ("PieceStoreModel", "phase", "[I", true)
  | 24 => ("PieceStoreModel", "begins", "[Z", true)
  | 25 => ("PieceStoreModel", "pair", "[I", true)
  | 26 => ("PieceStoreModel", "base", "[I", true)
  | 27 => ("PieceStoreModel", "deep", "I", false)
  | 28 => ("PieceStoreModel", "open", "I", false)
  | 29 => ("PieceStoreModel", "ops", "[I", true)
  | 30 => ("PieceStoreModel", "opMany", "I", false)
  | 31 => ("PieceStoreModel", "operand", "Z", false)
  | 32 => ("PieceStoreModel", "isStore", "Z", false)
  | 33 => ("PieceStoreModel", "refused", "[I", true)
  | 34 => ("PieceStoreModel", "mem", "[I", true)
  | 35 => ("PieceStoreModel", "logAt", "[I", true)
  | 36 => ("PieceStoreModel", "logWas", "[I", true)
  | 37 => ("PieceStoreModel", "logs", "I", false)
  | 38 => ("PieceStoreModel", "actFrom", "[I", true)
  | 39 => ("PieceStoreModel", "undos", "I", false)
  | 40 => ("PieceStoreModel", "seeds", "J", false)
  | 41 => ("PieceStoreModel", "listPiece", "[I", true)
  | 42 => ("PieceStoreModel", "pieceFrom", "[I", true)
  | 43 => ("PieceStoreModel", "pieceMany", "[I", true)
  | 44 => ("PieceStoreModel", "byteIn", "[I", true)
  | 45 => ("PieceStoreModel", "segmentFrom", "[I", true)
  | 46 => ("PieceStoreModel", "segmentMany", "[I", true)
  | 47 => ("PieceStoreModel", "hookPiece", "[I", true)
  | 48 => ("PieceStoreModel", "stack", "[J", true)
  | 49 => ("PieceStoreModel", "asked", "[I", true)
  | 50 => ("PieceStoreModel", "file", "[I", true)
  | 51 => ("PieceStoreModel", "fileMany", "I", false)
  | 52 => ("PieceStoreModel", "cutAt", "[I", true)
  | 53 => ("PieceStoreModel", "cutMany", "I", false)
  | 54 => ("PieceStoreModel", "isLive", "[I", true)
  | 55 => ("PieceStoreModel", "isHooked", "[I", true)
  | 56 => ("PieceStoreModel", "isUnlike", "[I", true)
  | 57 => ("PieceStoreModel", "toldFor", "[I", true)
  | 58 => ("PieceStoreModel", "champion", "[I", true)
  | 59 => ("PieceStoreModel", "champions", "I", false)
  | 60 => ("PieceStoreModel", "deskBox", "[I", true)
  | 61 => ("PieceStoreModel", "deskUsed", "[I", true)
  | 62 => ("PieceStoreModel", "isCleaned", "[I", true)
  | 63 => ("PieceStoreModel", "newBox", "[I", true)
  | 64 => ("PieceStoreModel", "moved", "[I", true)
  | 65 => ("PieceStoreModel", "metMany", "I", false)
  | 66 => ("PieceStoreModel", "metPiece", "[I", true)
  | 67 => ("PieceStoreModel", "metLength", "[I", true)
  | _ => ("PieceStoreModel", "lengthBy", "[I", true)
def tyX12 : Nat → FieldType := fun k => match k with
  | 0 => .array .int
  | 1 => .int
  | 2 => .int
  | 3 => .int
  | 4 => .int
  | 5 => .int
  | 6 => .int
  | 7 => .long
  | 8 => .int
  | 9 => .int
  | 10 => .int
  | 11 => .int
  | 12 => .int
  | 13 => .int
  | 14 => .array .int
  | 15 => .array .int
  | 16 => .array .int
  | 17 => .array .int
  | 18 => .array .int
  | 19 => .int
  | 20 => .int
  | 21 => .int
  | 22 => .array .int
  | 23 => .array .int
  | 24 => .array .boolean
  | 25 => .array .int
  | 26 => .array .int
  | 27 => .int
  | 28 => .int
  | 29 => .array .int
  | 30 => .int
  | 31 => .boolean
  | 32 => .boolean
  | 33 => .array .int
  | 34 => .array .int
  | 35 => .array .int
  | 36 => .array .int
  | 37 => .int
  | 38 => .array .int
  | 39 => .int
  | 40 => .long
  | 41 => .array .int
  | 42 => .array .int
  | 43 => .array .int
  | 44 => .array .int
  | 45 => .array .int
  | 46 => .array .int
  | 47 => .array .int
  | 48 => .array .long
  | 49 => .array .int
  | 50 => .array .int
  | 51 => .int
  | 52 => .array .int
  | 53 => .int
  | 54 => .array .int
  | 55 => .array .int
  | 56 => .array .int
  | 57 => .array .int
  | 58 => .array .int
  | 59 => .int
  | 60 => .array .int
  | 61 => .array .int
  | 62 => .array .int
  | 63 => .array .int
  | 64 => .array .int
  | 65 => .int
  | 66 => .array .int
  | 67 => .array .int
  | _ => .array .int
abbrev wsX120 : List Cond := u_ws RX12 TX12 69
theorem nmX12 : ∀ a, a < 69 → ∀ b, b < 69 → a ≠ b → (TX12 a).2.1 ≠ (TX12 b).2.1 := by decide +kernel
theorem tyX12_ok : ∀ k, k < 69 → parseFieldDescriptor (TX12 k).2.2.1 = some (tyX12 k) := by decide +kernel
abbrev cX12_init : ByteArray := prog_14_method_1_code
def yX12_init : MethodName := ⟨RX12, "<init>", "()V"⟩
abbrev cX12_is : ByteArray := prog_14_method_2_code
def yX12_is : MethodName := ⟨RX12, "is", "(III)Z"⟩
abbrev cX12_put : ByteArray := prog_14_method_3_code
def yX12_put : MethodName := ⟨RX12, "put", "(I)V"⟩
abbrev cX12_feed : ByteArray := prog_14_method_4_code
def yX12_feed : MethodName := ⟨RX12, "feed", "(IIIII)I"⟩
abbrev cX12_end : ByteArray := prog_14_method_5_code
def yX12_end : MethodName := ⟨RX12, "end", "(I)Z"⟩
abbrev cX12_blame : ByteArray := prog_14_method_6_code
def yX12_blame : MethodName := ⟨RX12, "blame", "(II)V"⟩
abbrev cX12_isLetter : ByteArray := prog_14_method_7_code
def yX12_isLetter : MethodName := ⟨RX12, "isLetter", "(I)Z"⟩
abbrev cX12_isDigit : ByteArray := prog_14_method_8_code
def yX12_isDigit : MethodName := ⟨RX12, "isDigit", "(I)Z"⟩
abbrev cX12_lex : ByteArray := prog_14_method_9_code
def yX12_lex : MethodName := ⟨RX12, "lex", "()V"⟩
abbrev cX12_ahead : ByteArray := prog_14_method_10_code
def yX12_ahead : MethodName := ⟨RX12, "ahead", "()V"⟩
abbrev cX12_isSign : ByteArray := prog_14_method_11_code
def yX12_isSign : MethodName := ⟨RX12, "isSign", "(I)Z"⟩
abbrev cX12_isWord : ByteArray := prog_14_method_12_code
def yX12_isWord : MethodName := ⟨RX12, "isWord", "(J)Z"⟩
abbrev cX12_must : ByteArray := prog_14_method_13_code
def yX12_must : MethodName := ⟨RX12, "must", "(I)V"⟩
abbrev cX12_number : ByteArray := prog_14_method_15_code
def yX12_number : MethodName := ⟨RX12, "number", "(II)I"⟩
abbrev cX12_add : ByteArray := prog_14_method_16_code
def yX12_add : MethodName := ⟨RX12, "add", "(II)V"⟩
abbrev cX12_rank : ByteArray := prog_14_method_17_code
def yX12_rank : MethodName := ⟨RX12, "rank", "(I)I"⟩
abbrev cX12_joins : ByteArray := prog_14_method_18_code
def yX12_joins : MethodName := ⟨RX12, "joins", "(I)V"⟩
abbrev cX12_holdsBack : ByteArray := prog_14_method_19_code
def yX12_holdsBack : MethodName := ⟨RX12, "holdsBack", "(I)V"⟩
abbrev cX12_pushes : ByteArray := prog_14_method_20_code
def yX12_pushes : MethodName := ⟨RX12, "pushes", "(I)V"⟩
abbrev cX12_opens : ByteArray := prog_14_method_21_code
def yX12_opens : MethodName := ⟨RX12, "opens", "(I)V"⟩
abbrev cX12_isTest : ByteArray := prog_14_method_22_code
def yX12_isTest : MethodName := ⟨RX12, "isTest", "(I)Z"⟩
abbrev cX12_operand : ByteArray := prog_14_method_23_code
def yX12_operand : MethodName := ⟨RX12, "operand", "()Z"⟩
abbrev cX12_goesOn : ByteArray := prog_14_method_24_code
def yX12_goesOn : MethodName := ⟨RX12, "goesOn", "()Z"⟩
abbrev cX12_reads : ByteArray := prog_14_method_25_code
def yX12_reads : MethodName := ⟨RX12, "reads", "(Z)V"⟩
abbrev cX12_isCounted : ByteArray := prog_14_method_26_code
def yX12_isCounted : MethodName := ⟨RX12, "isCounted", "(Z)Z"⟩
abbrev cX12_mustWord : ByteArray := prog_14_method_27_code
def yX12_mustWord : MethodName := ⟨RX12, "mustWord", "(J)V"⟩
abbrev cX12_boxing : ByteArray := prog_14_method_28_code
def yX12_boxing : MethodName := ⟨RX12, "boxing", "()V"⟩
abbrev cX12_telling : ByteArray := prog_14_method_29_code
def yX12_telling : MethodName := ⟨RX12, "telling", "(III)V"⟩
abbrev cX12_reading : ByteArray := prog_14_method_30_code
def yX12_reading : MethodName := ⟨RX12, "reading", "(I)V"⟩
abbrev cX12_statement : ByteArray := prog_14_method_31_code
def yX12_statement : MethodName := ⟨RX12, "statement", "()V"⟩
abbrev cX12_finishes : ByteArray := prog_14_method_32_code
def yX12_finishes : MethodName := ⟨RX12, "finishes", "(I)V"⟩
abbrev cX12_tellsAt : ByteArray := prog_14_method_33_code
def yX12_tellsAt : MethodName := ⟨RX12, "tellsAt", "(II)V"⟩
abbrev cX12_store : ByteArray := prog_14_method_34_code
def yX12_store : MethodName := ⟨RX12, "store", "()I"⟩
abbrev cX12_tellsUsual : ByteArray := prog_14_method_35_code
def yX12_tellsUsual : MethodName := ⟨RX12, "tellsUsual", "()V"⟩
abbrev cX12_by : ByteArray := prog_14_method_36_code
def yX12_by : MethodName := ⟨RX12, "by", "(I)I"⟩
abbrev cX12_fault : ByteArray := prog_14_method_37_code
def yX12_fault : MethodName := ⟨RX12, "fault", "(I)I"⟩
abbrev cX12_refuses : ByteArray := prog_14_method_38_code
def yX12_refuses : MethodName := ⟨RX12, "refuses", "(I)I"⟩
abbrev cX12_status : ByteArray := prog_14_method_39_code
def yX12_status : MethodName := ⟨RX12, "status", "(I)I"⟩
abbrev cX12_puts : ByteArray := prog_14_method_40_code
def yX12_puts : MethodName := ⟨RX12, "puts", "(II)V"⟩
abbrev cX12_takesBack : ByteArray := prog_14_method_41_code
def yX12_takesBack : MethodName := ⟨RX12, "takesBack", "(I)V"⟩
abbrev cX12_resets : ByteArray := prog_14_method_42_code
def yX12_resets : MethodName := ⟨RX12, "resets", "()V"⟩
abbrev cX12_keeps : ByteArray := prog_14_method_43_code
def yX12_keeps : MethodName := ⟨RX12, "keeps", "()V"⟩
abbrev cX12_undo : ByteArray := prog_14_method_44_code
def yX12_undo : MethodName := ⟨RX12, "undo", "()Z"⟩
abbrev cX12_within : ByteArray := prog_14_method_45_code
def yX12_within : MethodName := ⟨RX12, "within", "(J)J"⟩
abbrev cX12_floor : ByteArray := prog_14_method_46_code
def yX12_floor : MethodName := ⟨RX12, "floor", "(JJ)J"⟩
abbrev cX12_two : ByteArray := prog_14_method_47_code
def yX12_two : MethodName := ⟨RX12, "two", "(IJJ)J"⟩
abbrev cX12_holds : ByteArray := prog_14_method_48_code
def yX12_holds : MethodName := ⟨RX12, "holds", "(I)Z"⟩
abbrev cX12_isTold : ByteArray := prog_14_method_49_code
def yX12_isTold : MethodName := ⟨RX12, "isTold", "(I)Z"⟩
abbrev cX12_isFile : ByteArray := prog_14_method_50_code
def yX12_isFile : MethodName := ⟨RX12, "isFile", "()Z"⟩
abbrev cX12_rolling : ByteArray := prog_14_method_51_code
def yX12_rolling : MethodName := ⟨RX12, "rolling", "(II)I"⟩
abbrev cX12_isBorder : ByteArray := prog_14_method_52_code
def yX12_isBorder : MethodName := ⟨RX12, "isBorder", "(III)Z"⟩
abbrev cX12_cutsBy : ByteArray := prog_14_method_53_code
def yX12_cutsBy : MethodName := ⟨RX12, "cutsBy", "(I)V"⟩
abbrev cX12_lengthAt : ByteArray := prog_14_method_54_code
def yX12_lengthAt : MethodName := ⟨RX12, "lengthAt", "(I)I"⟩
abbrev cX12_printAt : ByteArray := prog_14_method_55_code
def yX12_printAt : MethodName := ⟨RX12, "printAt", "(I)I"⟩
abbrev cX12_printOf : ByteArray := prog_14_method_56_code
def yX12_printOf : MethodName := ⟨RX12, "printOf", "(I)I"⟩
abbrev cX12_isLike : ByteArray := prog_14_method_57_code
def yX12_isLike : MethodName := ⟨RX12, "isLike", "(II)Z"⟩
abbrev cX12_areLike : ByteArray := prog_14_method_58_code
def yX12_areLike : MethodName := ⟨RX12, "areLike", "(II)Z"⟩
abbrev cX12_isBackup : ByteArray := prog_14_method_59_code
def yX12_isBackup : MethodName := ⟨RX12, "isBackup", "(I)Z"⟩
abbrev cX12_dayOf : ByteArray := prog_14_method_60_code
def yX12_dayOf : MethodName := ⟨RX12, "dayOf", "(I)I"⟩
abbrev cX12_manyOf : ByteArray := prog_14_method_61_code
def yX12_manyOf : MethodName := ⟨RX12, "manyOf", "(I)I"⟩
abbrev cX12_pieceOf : ByteArray := prog_14_method_62_code
def yX12_pieceOf : MethodName := ⟨RX12, "pieceOf", "(II)I"⟩
abbrev cX12_boxOf : ByteArray := prog_14_method_63_code
def yX12_boxOf : MethodName := ⟨RX12, "boxOf", "(I)I"⟩
abbrev cX12_isThere : ByteArray := prog_14_method_64_code
def yX12_isThere : MethodName := ⟨RX12, "isThere", "(I)Z"⟩
abbrev cX12_enlivens : ByteArray := prog_14_method_65_code
def yX12_enlivens : MethodName := ⟨RX12, "enlivens", "()V"⟩
abbrev cX12_bytesIn : ByteArray := prog_14_method_66_code
def yX12_bytesIn : MethodName := ⟨RX12, "bytesIn", "(I)I"⟩
abbrev cX12_piecesIn : ByteArray := prog_14_method_67_code
def yX12_piecesIn : MethodName := ⟨RX12, "piecesIn", "(I)I"⟩
abbrev cX12_lays : ByteArray := prog_14_method_68_code
def yX12_lays : MethodName := ⟨RX12, "lays", "(I)V"⟩
abbrev cX12_stored : ByteArray := prog_14_method_69_code
def yX12_stored : MethodName := ⟨RX12, "stored", "()I"⟩
abbrev cX12_isHook : ByteArray := prog_14_method_70_code
def yX12_isHook : MethodName := ⟨RX12, "isHook", "(I)Z"⟩
abbrev cX12_hookLike : ByteArray := prog_14_method_71_code
def yX12_hookLike : MethodName := ⟨RX12, "hookLike", "(I)I"⟩
abbrev cX12_hooksOf : ByteArray := prog_14_method_72_code
def yX12_hooksOf : MethodName := ⟨RX12, "hooksOf", "(II)V"⟩
abbrev cX12_isChampion : ByteArray := prog_14_method_73_code
def yX12_isChampion : MethodName := ⟨RX12, "isChampion", "(I)Z"⟩
abbrev cX12_hooksFor : ByteArray := prog_14_method_74_code
def yX12_hooksFor : MethodName := ⟨RX12, "hooksFor", "(II)I"⟩
abbrev cX12_findsChampions : ByteArray := prog_14_method_75_code
def yX12_findsChampions : MethodName := ⟨RX12, "findsChampions", "(I)V"⟩
abbrev cX12_had : ByteArray := prog_14_method_76_code
def yX12_had : MethodName := ⟨RX12, "had", "(II)I"⟩
abbrev cX12_writes : ByteArray := prog_14_method_77_code
def yX12_writes : MethodName := ⟨RX12, "writes", "(I)I"⟩
abbrev cX12_savesSegment : ByteArray := prog_14_method_78_code
def yX12_savesSegment : MethodName := ⟨RX12, "savesSegment", "(II)I"⟩
abbrev cX12_writesDown : ByteArray := prog_14_method_79_code
def yX12_writesDown : MethodName := ⟨RX12, "writesDown", "(II)V"⟩
abbrev cX12_save : ByteArray := prog_14_method_80_code
def yX12_save : MethodName := ⟨RX12, "save", "()I"⟩
abbrev cX12_backups : ByteArray := prog_14_method_81_code
def yX12_backups : MethodName := ⟨RX12, "backups", "()I"⟩
abbrev cX12_living : ByteArray := prog_14_method_82_code
def yX12_living : MethodName := ⟨RX12, "living", "(I)I"⟩
abbrev cX12_allBytes : ByteArray := prog_14_method_83_code
def yX12_allBytes : MethodName := ⟨RX12, "allBytes", "()I"⟩
abbrev cX12_has : ByteArray := prog_14_method_84_code
def yX12_has : MethodName := ⟨RX12, "has", "(I)I"⟩
abbrev cX12_bytesOf : ByteArray := prog_14_method_85_code
def yX12_bytesOf : MethodName := ⟨RX12, "bytesOf", "(I)I"⟩
abbrev cX12_backup : ByteArray := prog_14_method_86_code
def yX12_backup : MethodName := ⟨RX12, "backup", "(II)I"⟩
abbrev cX12_piece : ByteArray := prog_14_method_87_code
def yX12_piece : MethodName := ⟨RX12, "piece", "(III)I"⟩
abbrev cX12_isBroken : ByteArray := prog_14_method_88_code
def yX12_isBroken : MethodName := ⟨RX12, "isBroken", "(I)Z"⟩
abbrev cX12_isFoul : ByteArray := prog_14_method_89_code
def yX12_isFoul : MethodName := ⟨RX12, "isFoul", "(I)Z"⟩
abbrev cX12_box : ByteArray := prog_14_method_90_code
def yX12_box : MethodName := ⟨RX12, "box", "(II)I"⟩
abbrev cX12_takes : ByteArray := prog_14_method_91_code
def yX12_takes : MethodName := ⟨RX12, "takes", "(I)V"⟩
abbrev cX12_octet : ByteArray := prog_14_method_92_code
def yX12_octet : MethodName := ⟨RX12, "octet", "(II)I"⟩
abbrev cX12_cuts : ByteArray := prog_14_method_93_code
def yX12_cuts : MethodName := ⟨RX12, "cuts", "(I)I"⟩
abbrev cX12_isOfIt : ByteArray := prog_14_method_94_code
def yX12_isOfIt : MethodName := ⟨RX12, "isOfIt", "(III)Z"⟩
abbrev cX12_shared : ByteArray := prog_14_method_95_code
def yX12_shared : MethodName := ⟨RX12, "shared", "(II)I"⟩
abbrev cX12_edit : ByteArray := prog_14_method_96_code
def yX12_edit : MethodName := ⟨RX12, "edit", "(III)I"⟩
abbrev cX12_lostAt : ByteArray := prog_14_method_97_code
def yX12_lostAt : MethodName := ⟨RX12, "lostAt", "(I)I"⟩
abbrev cX12_why : ByteArray := prog_14_method_98_code
def yX12_why : MethodName := ⟨RX12, "why", "(II)I"⟩
abbrev cX12_usedAgain : ByteArray := prog_14_method_99_code
def yX12_usedAgain : MethodName := ⟨RX12, "usedAgain", "(III)I"⟩
abbrev cX12_cleared : ByteArray := prog_14_method_100_code
def yX12_cleared : MethodName := ⟨RX12, "cleared", "(III)I"⟩
abbrev cX12_fetches : ByteArray := prog_14_method_101_code
def yX12_fetches : MethodName := ⟨RX12, "fetches", "(II)I"⟩
abbrev cX12_expired : ByteArray := prog_14_method_102_code
def yX12_expired : MethodName := ⟨RX12, "expired", "()I"⟩
abbrev cX12_fouls : ByteArray := prog_14_method_103_code
def yX12_fouls : MethodName := ⟨RX12, "fouls", "()I"⟩
abbrev cX12_collects : ByteArray := prog_14_method_104_code
def yX12_collects : MethodName := ⟨RX12, "collects", "()I"⟩
abbrev cX12_cleans : ByteArray := prog_14_method_105_code
def yX12_cleans : MethodName := ⟨RX12, "cleans", "()V"⟩
abbrev cX12_isAhead : ByteArray := prog_14_method_106_code
def yX12_isAhead : MethodName := ⟨RX12, "isAhead", "(III)Z"⟩
abbrev cX12_later : ByteArray := prog_14_method_107_code
def yX12_later : MethodName := ⟨RX12, "later", "(II)I"⟩
abbrev cX12_expires : ByteArray := prog_14_method_108_code
def yX12_expires : MethodName := ⟨RX12, "expires", "(I)I"⟩
abbrev cX12_gain : ByteArray := prog_14_method_109_code
def yX12_gain : MethodName := ⟨RX12, "gain", "(I)I"⟩
abbrev cX12_isUsing : ByteArray := prog_14_method_110_code
def yX12_isUsing : MethodName := ⟨RX12, "isUsing", "(II)Z"⟩
abbrev cX12_odds : ByteArray := prog_14_method_111_code
def yX12_odds : MethodName := ⟨RX12, "odds", "(I)I"⟩
abbrev cX12_meet : ByteArray := prog_14_method_112_code
def yX12_meet : MethodName := ⟨RX12, "meet", "()I"⟩
abbrev cX12_windowBits : ByteArray := prog_14_method_113_code
def yX12_windowBits : MethodName := ⟨RX12, "windowBits", "(I)I"⟩
abbrev cX12_windows : ByteArray := prog_14_method_114_code
def yX12_windows : MethodName := ⟨RX12, "windows", "(I)I"⟩
abbrev cX12_tells : ByteArray := prog_14_method_115_code
def yX12_tells : MethodName := ⟨RX12, "tells", "(II)I"⟩
abbrev cX12_forget : ByteArray := prog_14_method_116_code
def yX12_forget : MethodName := ⟨RX12, "forget", "(I)Z"⟩
abbrev cX12_days : ByteArray := prog_14_method_117_code
def yX12_days : MethodName := ⟨RX12, "days", "(I)I"⟩
abbrev cX12_draw : ByteArray := prog_14_method_118_code
def yX12_draw : MethodName := ⟨RX12, "draw", "(I)I"⟩
abbrev cX12_chance : ByteArray := prog_14_method_119_code
def yX12_chance : MethodName := ⟨RX12, "chance", "(I)I"⟩
abbrev cX12_clean : ByteArray := prog_14_method_120_code
def yX12_clean : MethodName := ⟨RX12, "clean", "()I"⟩
abbrev cX12_spoil : ByteArray := prog_14_method_121_code
def yX12_spoil : MethodName := ⟨RX12, "spoil", "(II)Z"⟩
abbrev cX12_smash : ByteArray := prog_14_method_122_code
def yX12_smash : MethodName := ⟨RX12, "smash", "(I)Z"⟩
abbrev cX12_seed : ByteArray := prog_14_method_123_code
def yX12_seed : MethodName := ⟨RX12, "seed", "(I)Z"⟩
abbrev cX12_kept : ByteArray := prog_14_method_124_code
def yX12_kept : MethodName := ⟨RX12, "kept", "(II)I"⟩
def RJx145de : String := "java/io/Serializable"
def TJx145de : u_T := fun k => match k with
  | _ => ("", "", "", false)
def tyJx145de : Nat → FieldType := fun k => match k with
  | _ => .int
abbrev wsJx145de0 : List Cond := u_ws RJx145de TJx145de 0
theorem nmJx145de : ∀ a, a < 0 → ∀ b, b < 0 → a ≠ b → (TJx145de a).2.1 ≠ (TJx145de b).2.1 := by decide +kernel
theorem tyJx145de_ok : ∀ k, k < 0 → parseFieldDescriptor (TJx145de k).2.2.1 = some (tyJx145de k) := by decide +kernel
def RJx9f9b0 : String := "java/lang/CharSequence"
def TJx9f9b0 : u_T := fun k => match k with
  | _ => ("", "", "", false)
def tyJx9f9b0 : Nat → FieldType := fun k => match k with
  | _ => .int
abbrev wsJx9f9b00 : List Cond := u_ws RJx9f9b0 TJx9f9b0 0
theorem nmJx9f9b0 : ∀ a, a < 0 → ∀ b, b < 0 → a ≠ b → (TJx9f9b0 a).2.1 ≠ (TJx9f9b0 b).2.1 := by decide +kernel
theorem tyJx9f9b0_ok : ∀ k, k < 0 → parseFieldDescriptor (TJx9f9b0 k).2.2.1 = some (tyJx9f9b0 k) := by decide +kernel
def RJx8e188 : String := "java/lang/Cloneable"
def TJx8e188 : u_T := fun k => match k with
  | _ => ("", "", "", false)
def tyJx8e188 : Nat → FieldType := fun k => match k with
  | _ => .int
abbrev wsJx8e1880 : List Cond := u_ws RJx8e188 TJx8e188 0
theorem nmJx8e188 : ∀ a, a < 0 → ∀ b, b < 0 → a ≠ b → (TJx8e188 a).2.1 ≠ (TJx8e188 b).2.1 := by decide +kernel
theorem tyJx8e188_ok : ∀ k, k < 0 → parseFieldDescriptor (TJx8e188 k).2.2.1 = some (tyJx8e188 k) := by decide +kernel
def RJxb160c : String := "java/lang/Comparable"
def TJxb160c : u_T := fun k => match k with
  | _ => ("", "", "", false)
def tyJxb160c : Nat → FieldType := fun k => match k with
  | _ => .int
abbrev wsJxb160c0 : List Cond := u_ws RJxb160c TJxb160c 0
theorem nmJxb160c : ∀ a, a < 0 → ∀ b, b < 0 → a ≠ b → (TJxb160c a).2.1 ≠ (TJxb160c b).2.1 := by decide +kernel
theorem tyJxb160c_ok : ∀ k, k < 0 → parseFieldDescriptor (TJxb160c k).2.2.1 = some (tyJxb160c k) := by decide +kernel
def RJ9 : String := "java/lang/Math"
def TJ9 : u_T := fun k => match k with
  | _ => ("", "", "", false)
def tyJ9 : Nat → FieldType := fun k => match k with
  | _ => .int
abbrev wsJ90 : List Cond := u_ws RJ9 TJ9 0
theorem nmJ9 : ∀ a, a < 0 → ∀ b, b < 0 → a ≠ b → (TJ9 a).2.1 ≠ (TJ9 b).2.1 := by decide +kernel
theorem tyJ9_ok : ∀ k, k < 0 → parseFieldDescriptor (TJ9 k).2.2.1 = some (tyJ9 k) := by decide +kernel
abbrev cJ9_floorDiv_7cf53 : ByteArray := prog_16_method_47_code
def yJ9_floorDiv_7cf53 : MethodName := ⟨RJ9, "floorDiv", "(II)I"⟩
abbrev cJ9_floorMod_7cf53 : ByteArray := prog_16_method_50_code
def yJ9_floorMod_7cf53 : MethodName := ⟨RJ9, "floorMod", "(II)I"⟩
abbrev cJ9_max_7cf53 : ByteArray := prog_16_method_65_code
def yJ9_max_7cf53 : MethodName := ⟨RJ9, "max", "(II)I"⟩
abbrev cJ9_min_7cf53 : ByteArray := prog_16_method_69_code
def yJ9_min_7cf53 : MethodName := ⟨RJ9, "min", "(II)I"⟩
def RJ0 : String := "java/lang/String"
def TJ0 : u_T := fun k => match k with
  | _ => ("", "", "", false)
def tyJ0 : Nat → FieldType := fun k => match k with
  | _ => .int
abbrev wsJ00 : List Cond := u_ws RJ0 TJ0 0
theorem nmJ0 : ∀ a, a < 0 → ∀ b, b < 0 → a ≠ b → (TJ0 a).2.1 ≠ (TJ0 b).2.1 := by decide +kernel
theorem tyJ0_ok : ∀ k, k < 0 → parseFieldDescriptor (TJ0 k).2.2.1 = some (tyJ0 k) := by decide +kernel
abbrev cJ0_length_8abf5 : ByteArray := prog_17_method_54_code
def yJ0_length_8abf5 : MethodName := ⟨RJ0, "length", "()I"⟩
abbrev cJ0_charAt_5068e : ByteArray := prog_17_method_56_code
def yJ0_charAt_5068e : MethodName := ⟨RJ0, "charAt", "(I)C"⟩
abbrev cJ0_coder_7d493 : ByteArray := prog_17_method_152_code
def yJ0_coder_7d493 : MethodName := ⟨RJ0, "coder", "()B"⟩
abbrev cJ0_isLatin1_aae02 : ByteArray := prog_17_method_154_code
def yJ0_isLatin1_aae02 : MethodName := ⟨RJ0, "isLatin1", "()Z"⟩
abbrev cJ0_checkIndex_df160 : ByteArray := prog_17_method_155_code
def yJ0_checkIndex_df160 : MethodName := ⟨RJ0, "checkIndex", "(II)V"⟩
def RJ1 : String := "java/lang/StringLatin1"
def TJ1 : u_T := fun k => match k with
  | _ => ("", "", "", false)
def tyJ1 : Nat → FieldType := fun k => match k with
  | _ => .int
abbrev wsJ10 : List Cond := u_ws RJ1 TJ1 0
theorem nmJ1 : ∀ a, a < 0 → ∀ b, b < 0 → a ≠ b → (TJ1 a).2.1 ≠ (TJ1 b).2.1 := by decide +kernel
theorem tyJ1_ok : ∀ k, k < 0 → parseFieldDescriptor (TJ1 k).2.2.1 = some (tyJ1 k) := by decide +kernel
abbrev cJ1_charAt_3b067 : ByteArray := prog_18_method_2_code
def yJ1_charAt_3b067 : MethodName := ⟨RJ1, "charAt", "([BI)C"⟩
def RJ2 : String := "java/lang/StringUTF16"
def TJ2 : u_T := fun k => match k with
  | _ => ("", "", "", false)
def tyJ2 : Nat → FieldType := fun k => match k with
  | _ => .int
abbrev wsJ20 : List Cond := u_ws RJ2 TJ2 0
theorem nmJ2 : ∀ a, a < 0 → ∀ b, b < 0 → a ≠ b → (TJ2 a).2.1 ≠ (TJ2 b).2.1 := by decide +kernel
theorem tyJ2_ok : ∀ k, k < 0 → parseFieldDescriptor (TJ2 k).2.2.1 = some (tyJ2 k) := by decide +kernel
abbrev cJ2_getChar_3b067 : ByteArray := prog_19_method_5_code
def yJ2_getChar_3b067 : MethodName := ⟨RJ2, "getChar", "([BI)C"⟩
abbrev cJ2_length_9d52b : ByteArray := prog_19_method_6_code
def yJ2_length_9d52b : MethodName := ⟨RJ2, "length", "([B)I"⟩
abbrev cJ2_charAt_3b067 : ByteArray := prog_19_method_83_code
def yJ2_charAt_3b067 : MethodName := ⟨RJ2, "charAt", "([BI)C"⟩
abbrev cJ2_checkIndex_2214a : ByteArray := prog_19_method_91_code
def yJ2_checkIndex_2214a : MethodName := ⟨RJ2, "checkIndex", "(I[B)V"⟩
def RJ10 : String := "java/lang/System"
def TJ10 : u_T := fun k => match k with
  | _ => ("", "", "", false)
def tyJ10 : Nat → FieldType := fun k => match k with
  | _ => .int
abbrev wsJ100 : List Cond := u_ws RJ10 TJ10 0
theorem nmJ10 : ∀ a, a < 0 → ∀ b, b < 0 → a ≠ b → (TJ10 a).2.1 ≠ (TJ10 b).2.1 := by decide +kernel
theorem tyJ10_ok : ∀ k, k < 0 → parseFieldDescriptor (TJ10 k).2.2.1 = some (tyJ10 k) := by decide +kernel
def RJxfd54e : String := "java/lang/constant/Constable"
def TJxfd54e : u_T := fun k => match k with
  | _ => ("", "", "", false)
def tyJxfd54e : Nat → FieldType := fun k => match k with
  | _ => .int
abbrev wsJxfd54e0 : List Cond := u_ws RJxfd54e TJxfd54e 0
theorem nmJxfd54e : ∀ a, a < 0 → ∀ b, b < 0 → a ≠ b → (TJxfd54e a).2.1 ≠ (TJxfd54e b).2.1 := by decide +kernel
theorem tyJxfd54e_ok : ∀ k, k < 0 → parseFieldDescriptor (TJxfd54e k).2.2.1 = some (tyJxfd54e k) := by decide +kernel
def RJx3cf43 : String := "java/lang/constant/ConstantDesc"
def TJx3cf43 : u_T := fun k => match k with
  | _ => ("", "", "", false)
def tyJx3cf43 : Nat → FieldType := fun k => match k with
  | _ => .int
abbrev wsJx3cf430 : List Cond := u_ws RJx3cf43 TJx3cf43 0
theorem nmJx3cf43 : ∀ a, a < 0 → ∀ b, b < 0 → a ≠ b → (TJx3cf43 a).2.1 ≠ (TJx3cf43 b).2.1 := by decide +kernel
theorem tyJx3cf43_ok : ∀ k, k < 0 → parseFieldDescriptor (TJx3cf43 k).2.2.1 = some (tyJx3cf43 k) := by decide +kernel
def RJ7 : String := "java/util/Arrays"
def TJ7 : u_T := fun k => match k with
  | _ => ("", "", "", false)
def tyJ7 : Nat → FieldType := fun k => match k with
  | _ => .int
abbrev wsJ70 : List Cond := u_ws RJ7 TJ7 0
theorem nmJ7 : ∀ a, a < 0 → ∀ b, b < 0 → a ≠ b → (TJ7 a).2.1 ≠ (TJ7 b).2.1 := by decide +kernel
theorem tyJ7_ok : ∀ k, k < 0 → parseFieldDescriptor (TJ7 k).2.2.1 = some (tyJ7 k) := by decide +kernel
abbrev cJ7_copyOf_59c91 : ByteArray := prog_21_method_123_code
def yJ7_copyOf_59c91 : MethodName := ⟨RJ7, "copyOf", "([II)[I"⟩
def RJ3 : String := "jdk/internal/util/Preconditions"
def TJ3 : u_T := fun k => match k with
  | _ => ("", "", "", false)
def tyJ3 : Nat → FieldType := fun k => match k with
  | _ => .int
abbrev wsJ30 : List Cond := u_ws RJ3 TJ3 0
theorem nmJ3 : ∀ a, a < 0 → ∀ b, b < 0 → a ≠ b → (TJ3 a).2.1 ≠ (TJ3 b).2.1 := by decide +kernel
theorem tyJ3_ok : ∀ k, k < 0 → parseFieldDescriptor (TJ3 k).2.2.1 = some (tyJ3 k) := by decide +kernel
abbrev cJ3_checkIndex_8e157 : ByteArray := prog_22_method_11_code
def yJ3_checkIndex_8e157 : MethodName := ⟨RJ3, "checkIndex", "(IILjava/util/function/BiFunction;)I"⟩
def RL : String := "PieceStoreLaw"
abbrev cL_law : ByteArray := code
def yL_law : MethodName := ⟨RL, "law", "([I)Z"⟩
