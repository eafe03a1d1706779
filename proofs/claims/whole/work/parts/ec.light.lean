/-! ===== L2: feed, end, seed, meet, cuts ===== -/
section
variable {h h1 h2 : AH} {r r' : Nat} {nu nv : List Int} {ts tv : Nat → List (Int × Int)} {idm : Nat → Nat} {K : KT} {cf : List (List Int)} {PF : List Int} {Ks : Nat → KT} {u m pn bk : Nat} {a : Nat → Nat} {M : Nat → Nat → Int32} {T G MT : List Int} {st : Bool} {x fk fp : Int}
/-- a class call that changes the light rows alone -/
theorem lig1 (C : CK h r r' nu ts idm K cf PF Ks u m pn) (D : MK h bk nv tv K Ks u a M) (E : ML h T G MT st x fk fp) {S O : List Nat} (f : FrC S O h h1) (hS : ∀ q ∈ S, q ∈ scR r) (hO : ∀ q ∈ O, q = 0 ∨ q = 11) (h11 : ∀ k, k ≠ 15 → hI h1 11 k = hI h 11 k) (R : RuC h1 r nu ts) : CK h1 r r' nu ts idm K cf PF Ks u m pn ∧ MK h1 bk nv tv K Ks u a M ∧ ML h1 T G MT st x fk fp := by
  have A : AgRe h h1 := f.re (fun q hq => by have := hO q hq; omega)
  exact ⟨C.q f hS (fun q hq => by have := hO q hq; omega) h11 R, D.re A, E.re A⟩
/-- a reference call that changes light cells alone -/
theorem lig2 (C : CK h1 r r' nu ts idm K cf PF Ks u m pn) (D : MK h1 bk nv tv K Ks u a M) {S S5 : List Nat} (f : FrM S S5 h1 h2) (hS : ∀ q ∈ S, q ∈ [96, 108, 120, 121, 122, 123, 134, 135]) (h5 : ∀ k ∈ S5, k ∈ [1, 10, 11, 51, 53, 65]) : CK h2 r r' nu ts idm K cf PF Ks u m pn ∧ MK h2 bk nv tv K Ks u a M ∧ AgCl h1 h2 := by
  have rg : ∀ q ∈ S, q = 96 ∨ q = 108 ∨ q = 120 ∨ q = 121 ∨ q = 122 ∨ q = 123 ∨ q = 134 ∨ q = 135 := fun q hq => by
    have := hS q hq
    simp only [List.mem_cons, List.not_mem_nil, or_false] at this
    omega
  have A : AgCl h1 h2 := f.cl (fun q hq => by have := rg q hq; omega)
  have e5 : ∀ k, k = 13 ∨ k = 37 ∨ k = 39 → hI h2 95 k = hI h1 95 k := fun k hk => f.2.2.2.2.2.1 k (fun z => by
    have := h5 k z
    simp only [List.mem_cons, List.not_mem_nil, or_false] at this
    omega)
  refine ⟨C.m A, D.q (fun q hq => ?_) ⟨e5 13 (by omega), e5 37 (by omega), e5 39 (by omega)⟩ (LogS.fr f (fun z => by have := rg 110 z; omega) (fun z => by have := rg 111 z; omega)), A⟩
  simp only [List.mem_cons, List.not_mem_nil, or_false] at hq
  exact f.2.2.2.2.1 q (fun z => by have := rg q z; omega) (by omega)
theorem bump6 {G : List Int} (h : G.length = 6) (k : Nat) : (bump G k).length = 6 := by rw [bump_length]; exact h
theorem PI.refused {n : Nat} (P : PI n nu ts K cf PF Ks u T G MT st x) (k : Nat) : PI (n + 1) nu ts K cf PF Ks u T (bump G k) MT st x := ⟨P.1, P.2.1, P.2.2.1, P.2.2.2.1, P.2.2.2.2.1, P.2.2.2.2.2.1, P.2.2.2.2.2.2.1, P.2.2.2.2.2.2.2.1, P.2.2.2.2.2.2.2.2.1, bump6 P.2.2.2.2.2.2.2.2.2.1 k, P.2.2.2.2.2.2.2.2.2.2.1, P.2.2.2.2.2.2.2.2.2.2.2.up⟩
theorem PI.tape {n : Nat} (P : PI n nu ts K cf PF Ks u T G MT st x) {T' : List Int} (hl : T'.length ≤ T.length) (hs : ∀ y ∈ T', y ∈ T) {G' : List Int} (hG : G'.length = 6) {MT' : List Int} (hM : MtOk MT') : PI (n + 1) nu ts K cf PF Ks u T' G' MT' st x := ⟨P.1, P.2.1, P.2.2.1, P.2.2.2.1, P.2.2.2.2.1, P.2.2.2.2.2.1, hM, fun y hy => P.2.2.2.2.2.2.2.1 y (hs y hy), Nat.le_trans hl P.2.2.2.2.2.2.2.2.1, hG, P.2.2.2.2.2.2.2.2.2.2.1, P.2.2.2.2.2.2.2.2.2.2.2.tape hl⟩
theorem bytes_at {T : List Int} (h : ∀ y ∈ T, 0 ≤ y ∧ y ≤ 255) (j : Nat) : 0 ≤ T.getD j 0 ∧ T.getD j 0 ≤ 255 := by
  by_cases hj : j < T.length
  · exact h _ (by rw [List.getD_eq_getElem?_getD, List.getElem?_eq_getElem hj]; exact List.getElem_mem hj)
  · rw [List.getD_eq_getElem?_getD, List.getElem?_eq_none (by omega)]; decide
/-- both count a refusal, the tape being as it was -/
theorem refuse2 {n : Nat} (hk : 0 < 6) (C : CK h r r' nu ts idm K cf PF Ks u m pn) (L : CL h T G MT st x fk fp) (D : MK h bk nv tv K Ks u a M) (E : ML h T G MT st x fk fp) (P : PI n nu ts K cf PF Ks u T G MT st x) (V : VL st nu ts nv tv) (k : Nat) (hk6 : k < 6) :
    CK (sR h 2 (mI (bump G k))) r r' nu ts idm K cf PF Ks u m pn ∧ MK (sR h 2 (mI (bump G k))) bk nv tv K Ks u a M ∧ ML (sR h 2 (mI (bump G k))) T G MT st x fk fp ∧ Inv (n + 1) (sI (sR h 2 (mI (bump G k))) 108 k (iI (G.getD k 0 + 1))) := by
  have rr : r = 12 ∨ r = 83 := C.1.2.1
  have f1 : FrC [2] [] h (sR h 2 (mI (bump G k))) := (FrC.rf _ _ h).put 2 (by simp) _
  have R1 : RuC (sR h 2 (mI (bump G k))) r nu ts := C.1.2.2.2.1.frC f1 (by simp; omega)
  obtain ⟨C1, D1, E1⟩ := lig1 C D E f1 (by unfold scR; simp) (by simp) (fun _ _ => rfl) R1
  have f2 : FrM [108] [] (sR h 2 (mI (bump G k))) (sI (sR h 2 (mI (bump G k))) 108 k (iI (G.getD k 0 + 1))) := (FrM.rf _ _ _).wI 108 _ (by simp) (by decide) _
  obtain ⟨C2, D2, A2⟩ := lig2 C1 D1 f2 (by decide) (by decide)
  have L1 : CL (sR h 2 (mI (bump G k))) T (bump G k) MT st x fk fp := by
    obtain ⟨l1, l2, l3, l4⟩ := L
    exact ⟨by rw [hR_sRu, u1_ne (by decide)]; exact l1, by rw [hR_sRu, u1_eq], by rw [hR_sRu, u1_ne (by decide)]; exact l3, l4⟩
  refine ⟨C1, D1, E1, r, r', nu, ts, idm, K, cf, PF, Ks, u, m, pn, bk, nv, tv, a, M, T, bump G k, MT, st, x, fk, fp, C2, L1.m A2, D2, ?_, P.refused k, V⟩
  obtain ⟨e1, e2, e3, e4⟩ := E1
  have i95 : hI (sI (sR h 2 (mI (bump G k))) 108 k (iI (G.getD k 0 + 1))) 95 = hI (sR h 2 (mI (bump G k))) 95 := by rw [hI_sI, u2_ne (by decide)]
  refine ⟨?_, RefM_bump P.2.2.2.2.2.2.2.2.2.1 e2 k hk6, ?_, ?_⟩
  · unfold TapeM
    rw [i95, hI_sI, u2_ne (by decide)]
    exact e1
  · unfold MetM
    rw [i95, hI_sI, u2_ne (by decide), u2_ne (by decide)]
    exact e3
  · rw [i95]
    exact e4
end
theorem S_feed {n : Nat} {h : AH} (I : Inv n h) (hn : n < 512) (a1 a2 a3 a4 a5 : Int32) : StpI n h mX11_feed mX12_feed [.int a1, .int a2, .int a3, .int a4, .int a5] := by
  obtain ⟨r, r', nu, ts, idm, K, cf, PF, Ks, u, m, pn, bk, nv, tv, a, M, T, G, MT, st, x, fk, fp, C, L, D, E, P, V⟩ := I
  have rr : r = 12 ∨ r = 83 := C.1.2.1
  have g := C.1.1
  have hl := P.2.2.2.2.2.2.2.2.1
  have G6 := P.2.2.2.2.2.2.2.2.2.1
  have q1 := c_feed g T G a1 a2 a3 a4 a5 L.1 hl L.2.1 G6
  by_cases c : 1600 < T.length + 20
  · rw [if_pos c] at q1
    obtain ⟨C1, D1, E1, I2⟩ := refuse2 (by decide) C L D E P V 0 (by decide)
    have t1 := m_feed C1.1.1 T G a1 a2 a3 a4 a5 E1.1 hl E1.2.1
    rw [if_pos c] at t1
    exact ⟨_, _, _, q1, t1, C1.1.1, I2⟩
  · rw [if_neg c] at q1
    have f1 : FrC [1] [] h (sR h 1 (mI (T ++ fed a1 a2 a3 a4 a5))) := (FrC.rf _ _ h).put 1 (by simp) _
    have R1 : RuC (sR h 1 (mI (T ++ fed a1 a2 a3 a4 a5))) r nu ts := C.1.2.2.2.1.frC f1 (by simp; omega)
    obtain ⟨C1, D1, E1⟩ := lig1 C D E f1 (by unfold scR; simp) (by simp) (fun _ _ => rfl) R1
    have t1 := m_feed C1.1.1 T G a1 a2 a3 a4 a5 E1.1 hl E1.2.1
    rw [if_neg c] at t1
    have f2 : FrM [96] [1] (sR h 1 (mI (T ++ fed a1 a2 a3 a4 a5))) (sI (sA (sR h 1 (mI (T ++ fed a1 a2 a3 a4 a5))) 96 (wrA (hI (sR h 1 (mI (T ++ fed a1 a2 a3 a4 a5))) 96) T.length (fed a1 a2 a3 a4 a5))) 95 1 (iI ((T.length + 20 : Nat) : Int))) := ((FrM.rf _ _ _).wA 96 (by simp) (by decide) _).wF 1 (by simp) _
    obtain ⟨C2, D2, A2⟩ := lig2 C1 D1 f2 (by decide) (by decide)
    have L1 : CL (sR h 1 (mI (T ++ fed a1 a2 a3 a4 a5))) (T ++ fed a1 a2 a3 a4 a5) G MT st x fk fp := by
      obtain ⟨l1, l2, l3, l4⟩ := L
      exact ⟨by rw [hR_sRu, u1_eq], by rw [hR_sRu, u1_ne (by decide)]; exact l2, by rw [hR_sRu, u1_ne (by decide)]; exact l3, l4⟩
    refine ⟨_, _, _, q1, t1, C1.1.1, r, r', nu, ts, idm, K, cf, PF, Ks, u, m, pn, bk, nv, tv, a, M, T ++ fed a1 a2 a3 a4 a5, G, MT, st, x, fk, fp, C2, L1.m A2, D2, ?_, ?_, V⟩
    · obtain ⟨e1, e2, e3, e4, e5, e6, e7⟩ := E1
      have i95 : ∀ k, k ≠ 1 → hI (sI (sA (sR h 1 (mI (T ++ fed a1 a2 a3 a4 a5))) 96 (wrA (hI (sR h 1 (mI (T ++ fed a1 a2 a3 a4 a5))) 96) T.length (fed a1 a2 a3 a4 a5))) 95 1 (iI ((T.length + 20 : Nat) : Int))) 95 k = hI (sR h 1 (mI (T ++ fed a1 a2 a3 a4 a5))) 95 k := fun k hk => f2.2.2.2.2.2.1 k (by simpa using hk)
      refine ⟨⟨?_, fun i hi => ?_⟩, fun i hi => ?_, ⟨?_, fun j hj => ?_⟩, ?_, ?_, ?_, e7⟩
      · rw [hI_sI, u2_app, if_pos ⟨rfl, rfl⟩, List.length_append, fed_length]
      · rw [hI_sI, u2_ne (by decide), hI_sA, u1_eq]
        rw [List.length_append, fed_length] at hi
        unfold wrA
        rw [fed_length]
        by_cases z : i < T.length
        · rw [if_neg (by omega), List.getD_eq_getElem?_getD, List.getElem?_append_left z, ← List.getD_eq_getElem?_getD]
          exact e1.2 i z
        · rw [if_pos (by omega), List.getD_eq_getElem?_getD (l := T ++ _), List.getElem?_append_right (by omega), ← List.getD_eq_getElem?_getD]
      · rw [f2.2.2.2.2.1 108 (by simp) (by decide)]
        exact e2 i hi
      · rw [i95 65 (by decide)]; exact e3.1
      · rw [f2.2.2.2.2.1 134 (by simp) (by decide), f2.2.2.2.2.1 135 (by simp) (by decide)]
        exact e3.2 j hj
      · rw [i95 32 (by decide)]; exact e4
      · rw [i95 10 (by decide)]; exact e5
      · rw [i95 11 (by decide)]; exact e6
    · obtain ⟨p1, p2, p3, p4, p5, p6, p7, p8, p9, p10, p11, b1, b2, b3, b4, b5, b6, b7⟩ := P
      have el : (T ++ fed a1 a2 a3 a4 a5).length = T.length + 20 := by rw [List.length_append, fed_length]
      refine ⟨p1, p2, p3, p4, p5, p6, p7, fun y hy => ?_, by omega, p10, p11, ?_⟩
      · rcases List.mem_append.mp hy with z | z
        · exact p8 y z
        · exact fed_rg a1 a2 a3 a4 a5 y z
      · unfold NB
        rw [el]
        exact ⟨by omega, by omega, by omega, by omega, by omega, by omega, by omega⟩
theorem S_end {n : Nat} {h : AH} (I : Inv n h) (hn : n < 512) (a1 : Int32) : StpI n h mX11_end mX12_end [.int a1] := by
  obtain ⟨r, r', nu, ts, idm, K, cf, PF, Ks, u, m, pn, bk, nv, tv, a, M, T, G, MT, st, x, fk, fp, C, L, D, E, P, V⟩ := I
  obtain ⟨b1, rfl, hb1⟩ := iI_self a1
  have rr : r = 12 ∨ r = 83 := C.1.2.1
  have g := C.1.1
  have hl := P.2.2.2.2.2.2.2.2.1
  have G6 := P.2.2.2.2.2.2.2.2.2.1
  have q1 := C_end g T G b1 hb1 L.1 hl L.2.1 G6
  by_cases c : 0 ≤ b1 ∧ b1 ≤ T.length
  · rw [if_pos c] at q1
    have f1 : FrC [1] [] h (sR h 1 (mI (T.take b1.toNat))) := (FrC.rf _ _ h).put 1 (by simp) _
    have R1 : RuC (sR h 1 (mI (T.take b1.toNat))) r nu ts := C.1.2.2.2.1.frC f1 (by simp; omega)
    obtain ⟨C1, D1, E1⟩ := lig1 C D E f1 (by unfold scR; simp) (by simp) (fun _ _ => rfl) R1
    have t1 := M_end C1.1.1 T G b1 hb1 E1.1 hl E1.2.1
    rw [if_pos c] at t1
    have f2 : FrM [] [1] (sR h 1 (mI (T.take b1.toNat))) (sI (sR h 1 (mI (T.take b1.toNat))) 95 1 (iI b1)) := (FrM.rf _ _ _).wF 1 (by simp) _
    obtain ⟨C2, D2, A2⟩ := lig2 C1 D1 f2 (by decide) (by decide)
    have L1 : CL (sR h 1 (mI (T.take b1.toNat))) (T.take b1.toNat) G MT st x fk fp := by
      obtain ⟨l1, l2, l3, l4⟩ := L
      exact ⟨by rw [hR_sRu, u1_eq], by rw [hR_sRu, u1_ne (by decide)]; exact l2, by rw [hR_sRu, u1_ne (by decide)]; exact l3, l4⟩
    have el : (T.take b1.toNat).length = b1.toNat := by rw [List.length_take]; omega
    refine ⟨_, _, _, q1, t1, C1.1.1, r, r', nu, ts, idm, K, cf, PF, Ks, u, m, pn, bk, nv, tv, a, M, T.take b1.toNat, G, MT, st, x, fk, fp, C2, L1.m A2, D2, ?_, P.tape (by omega) (fun y hy => List.mem_of_mem_take hy) G6 P.2.2.2.2.2.2.1, V⟩
    obtain ⟨e1, e2, e3, e4, e5, e6, e7⟩ := E1
    have i95 : ∀ k, k ≠ 1 → hI (sI (sR h 1 (mI (T.take b1.toNat))) 95 1 (iI b1)) 95 k = hI (sR h 1 (mI (T.take b1.toNat))) 95 k := fun k hk => f2.2.2.2.2.2.1 k (by simpa using hk)
    refine ⟨⟨?_, fun i hi => ?_⟩, fun i hi => ?_, ⟨?_, fun j hj => ?_⟩, ?_, ?_, ?_, e7⟩
    · rw [hI_sI, u2_app, if_pos ⟨rfl, rfl⟩, el]
      congr 1; omega
    · rw [el] at hi
      rw [f2.2.2.2.2.1 96 (by simp) (by decide), List.getD_eq_getElem?_getD, List.getElem?_take, if_pos hi, ← List.getD_eq_getElem?_getD]
      exact e1.2 i (by omega)
    · rw [f2.2.2.2.2.1 108 (by simp) (by decide)]
      exact e2 i hi
    · rw [i95 65 (by decide)]; exact e3.1
    · rw [f2.2.2.2.2.1 134 (by simp) (by decide), f2.2.2.2.2.1 135 (by simp) (by decide)]
      exact e3.2 j hj
    · rw [i95 32 (by decide)]; exact e4
    · rw [i95 10 (by decide)]; exact e5
    · rw [i95 11 (by decide)]; exact e6
  · rw [if_neg c] at q1
    obtain ⟨C1, D1, E1, I2⟩ := refuse2 (by decide) C L D E P V 0 (by decide)
    have t1 := M_end C1.1.1 T G b1 hb1 E1.1 hl E1.2.1
    rw [if_neg c] at t1
    exact ⟨_, _, _, q1, t1, C1.1.1, I2⟩
theorem S_seed {n : Nat} {h : AH} (I : Inv n h) (hn : n < 512) (a1 : Int32) : StpI n h mX11_seed mX12_seed [.int a1] := by
  obtain ⟨r, r', nu, ts, idm, K, cf, PF, Ks, u, m, pn, bk, nv, tv, a, M, T, G, MT, st, x, fk, fp, C, L, D, E, P, V⟩ := I
  obtain ⟨b1, rfl, hb1⟩ := iI_self a1
  have rr : r = 12 ∨ r = 83 := C.1.2.1
  have g := C.1.1
  have hl := P.2.2.2.2.2.2.2.2.1
  have G6 := P.2.2.2.2.2.2.2.2.2.1
  have q1 := C_seed g G b1 hb1 L.2.1 G6
  by_cases c : b1 < 0
  · rw [if_pos c, if_pos c] at q1
    obtain ⟨C1, D1, E1, I2⟩ := refuse2 (by decide) C L D E P V 5 (by decide)
    have t1 := M_seed C1.1.1 G b1 hb1 E1.2.1
    rw [if_pos c, if_pos c] at t1
    exact ⟨_, _, _, q1, t1, C1.1.1, I2⟩
  · rw [if_neg c, if_neg c] at q1
    have f1 : FrC [] [11] h (sI h 11 15 (iI b1)) := (FrC.rf _ _ h).putI 11 _ (by simp) _
    have R1 : RuC (sI h 11 15 (iI b1)) r nu ts := C.1.2.2.2.1.frC f1 (by simp)
    obtain ⟨C1, D1, E1⟩ := lig1 C D E f1 (by simp) (by simp) (fun k hk => by rw [hI_sI, u2_app, if_neg (fun z => hk z.2)]) R1
    have t1 := M_seed C1.1.1 G b1 hb1 E1.2.1
    rw [if_neg c, if_neg c] at t1
    have A2 : AgCl (sI h 11 15 (iI b1)) (sL (sI h 11 15 (iI b1)) 95 40 (lI b1)) := ⟨rfl, rfl, rfl, rfl, fun _ _ => rfl⟩
    have D2 : MK (sL (sI h 11 15 (iI b1)) 95 40 (lI b1)) bk nv tv K Ks u a M := D1.q (fun _ _ => rfl) ⟨rfl, rfl, rfl⟩ (fun _ _ _ _ _ => ⟨rfl, rfl⟩)
    have L1 : CL (sI h 11 15 (iI b1)) T G MT st b1 fk fp := by
      obtain ⟨l1, l2, l3, l4, l5, l6, l7⟩ := L
      exact ⟨l1, l2, l3, by rw [hI_sI, u2_ne (by decide)]; exact l4, by rw [hI_sI, u2_ne (by decide)]; exact l5, by rw [hI_sI, u2_ne (by decide)]; exact l6, by rw [hI_sI, u2_app, if_pos ⟨rfl, rfl⟩]⟩
    obtain ⟨e1, e2, e3, e4, e5, e6, e7⟩ := E1
    obtain ⟨p1, p2, p3, p4, p5, p6, p7, p8, p9, p10, p11, p12⟩ := P
    unfold rg at hb1
    exact ⟨_, _, _, q1, t1, C1.1.1, r, r', nu, ts, idm, K, cf, PF, Ks, u, m, pn, bk, nv, tv, a, M, T, G, MT, st, b1, fk, fp, C1.m A2, L1.m A2, D2, ⟨e1, e2, e3, e4, e5, e6, by rw [hL_sL, u2_app, if_pos ⟨rfl, rfl⟩]⟩, ⟨p1, p2, p3, p4, p5, p6, p7, p8, p9, p10, ⟨by omega, by omega⟩, p12.up⟩, V⟩
/-- the tape goes on both sides -/
theorem ML.went {h h' : AH} {T G MT : List Int} {st : Bool} {x fk fp : Int} (E : ML h T G MT st x fk fp) {S S5 : List Nat} (f : FrM S S5 h h') (hS : ∀ q ∈ S, q ∈ [120, 121, 122, 123]) (h5 : ∀ k ∈ S5, k ∈ [1, 51, 53]) (e1 : hI h' 95 1 = iI 0) : ML h' [] G MT st x fk fp := by
  obtain ⟨m1, m2, m3, m4, m5, m6, m7⟩ := E
  have rg : ∀ q ∈ S, 120 ≤ q ∧ q ≤ 123 := fun q hq => by
    have := hS q hq
    simp only [List.mem_cons, List.not_mem_nil, or_false] at this
    omega
  have i5 : ∀ k, k ≠ 1 → k ≠ 51 → k ≠ 53 → hI h' 95 k = hI h 95 k := fun k k1 k2 k3 => f.2.2.2.2.2.1 k (fun z => by
    have := h5 k z
    simp only [List.mem_cons, List.not_mem_nil, or_false] at this
    omega)
  have i : ∀ q, q ≠ 95 → (q < 120 ∨ 123 < q) → hI h' q = hI h q := fun q q5 hq => f.2.2.2.2.1 q (fun z => by have := rg q z; omega) q5
  refine ⟨⟨e1, fun i hi => absurd hi (Nat.not_lt_zero _)⟩, fun j hj => by rw [i 108 (by decide) (by decide)]; exact m2 j hj, ⟨by rw [i5 65 (by decide) (by decide) (by decide)]; exact m3.1, fun j hj => by rw [i 134 (by decide) (by decide), i 135 (by decide) (by decide)]; exact m3.2 j hj⟩, by rw [i5 32 (by decide) (by decide) (by decide)]; exact m4, by rw [i5 10 (by decide) (by decide) (by decide)]; exact m5, by rw [i5 11 (by decide) (by decide) (by decide)]; exact m6, by rw [f.2.2.2.2.2.2 95 (fun z => by have := rg 95 z; omega)]; exact m7⟩
theorem S_meet {n : Nat} {h : AH} (I : Inv n h) (hn : n < 512) : StpI n h mX11_meet mX12_meet [] := by
  obtain ⟨r, r', nu, ts, idm, K, cf, PF, Ks, u, m, pn, bk, nv, tv, a, M, T, G, MT, st, x, fk, fp, C, L, D, E, P, V⟩ := I
  have rr : r = 12 ∨ r = 83 := C.1.2.1
  have g := C.1.1
  have hl := P.2.2.2.2.2.2.2.2.1
  have G6 := P.2.2.2.2.2.2.2.2.2.1
  have hb := bytes_at P.2.2.2.2.2.2.2.1
  rcases C_meet g st L.2.2.2.1 T L.1 hl hb G L.2.1 G6 with ⟨ok, q1⟩ | ⟨nok, q1⟩
  · have f1 : FrC [1, 80] [] h (sR (sR h 80 (mI T)) 1 []) := ((FrC.rf _ _ h).put 80 (by simp) _).put 1 (by simp) _
    have R1 : RuC (sR (sR h 80 (mI T)) 1 []) r nu ts := C.1.2.2.2.1.frC f1 (by simp; omega)
    obtain ⟨C1, D1, E1⟩ := lig1 C D E f1 (by unfold scR; simp) (by simp) (fun _ _ => rfl) R1
    rcases M_meet C1.1.1 st E1.2.2.2.1 T E1.1 hl hb G E1.2.1 with ⟨-, h2, t1, f2, t3, t4⟩ | ⟨nok, -⟩
    · obtain ⟨C2, D2, A2⟩ := lig2 C1 D1 f2 (by decide) (by decide)
      have L1 : CL (sR (sR h 80 (mI T)) 1 []) [] G T st x fk fp := by
        obtain ⟨l1, l2, l3, l4⟩ := L
        exact ⟨by rw [hR_sRu, u1_eq]; rfl, by rw [hR_sRu, u1_ne (by decide), hR_sRu, u1_ne (by decide)]; exact l2, by rw [hR_sRu, u1_ne (by decide), hR_sRu, u1_eq], l4⟩
      obtain ⟨e1, e2, e3, e4, e5, e6, e7⟩ := E1
      have i95 : ∀ k, k ≠ 1 → k ≠ 65 → hI h2 95 k = hI (sR (sR h 80 (mI T)) 1 []) 95 k := fun k hk hk2 => f2.2.2.2.2.2.1 k (by simpa using ⟨hk, hk2⟩)
      refine ⟨_, _, h2, q1, t1, C1.1.1, r, r', nu, ts, idm, K, cf, PF, Ks, u, m, pn, bk, nv, tv, a, M, [], G, T, st, x, fk, fp, C2, L1.m A2, D2, ⟨⟨t3, fun i hi => absurd hi (Nat.not_lt_zero _)⟩, fun i hi => by rw [f2.2.2.2.2.1 108 (by decide) (by decide)]; exact e2 i hi, t4, by rw [i95 32 (by decide) (by decide)]; exact e4, by rw [i95 10 (by decide) (by decide)]; exact e5, by rw [i95 11 (by decide) (by decide)]; exact e6, by rw [f2.2.2.2.2.2.2 95 (by decide)]; exact e7⟩, P.tape (Nat.zero_le _) (fun y hy => absurd hy (by simp)) G6 ?_, V⟩
      obtain ⟨o1, o2, o3, o4, o5⟩ := ok
      refine ⟨o3, o4, hb, fun j hj => ?_⟩
      have := o5 j hj
      unfold mrow at this
      simp at this
      exact this.1
    · exact absurd ok nok
  · have f1 : FrC [1, 2] [] h (sR (sR h 1 []) 2 (mI (bump G 5))) := ((FrC.rf _ _ h).put 1 (by simp) _).put 2 (by simp) _
    have R1 : RuC (sR (sR h 1 []) 2 (mI (bump G 5))) r nu ts := C.1.2.2.2.1.frC f1 (by simp; omega)
    obtain ⟨C1, D1, E1⟩ := lig1 C D E f1 (by unfold scR; simp) (by simp) (fun _ _ => rfl) R1
    rcases M_meet C1.1.1 st E1.2.2.2.1 T E1.1 hl hb G E1.2.1 with ⟨ok, -⟩ | ⟨-, t1⟩
    · exact absurd ok nok
    · have f2 : FrM [108] [1] (sR (sR h 1 []) 2 (mI (bump G 5))) (sI (sI (sR (sR h 1 []) 2 (mI (bump G 5))) 95 1 (iI 0)) 108 5 (iI (G.getD 5 0 + 1))) := ((FrM.rf _ _ _).wF 1 (by simp) _).wI 108 _ (by simp) (by decide) _
      obtain ⟨C2, D2, A2⟩ := lig2 C1 D1 f2 (by decide) (by decide)
      have L1 : CL (sR (sR h 1 []) 2 (mI (bump G 5))) [] (bump G 5) MT st x fk fp := by
        obtain ⟨l1, l2, l3, l4⟩ := L
        exact ⟨by rw [hR_sRu, u1_ne (by decide), hR_sRu, u1_eq]; rfl, by rw [hR_sRu, u1_eq], by rw [hR_sRu, u1_ne (by decide), hR_sRu, u1_ne (by decide)]; exact l3, l4⟩
      refine ⟨_, _, _, q1, t1, C1.1.1, r, r', nu, ts, idm, K, cf, PF, Ks, u, m, pn, bk, nv, tv, a, M, [], bump G 5, MT, st, x, fk, fp, C2, L1.m A2, D2, ?_, P.tape (Nat.zero_le _) (fun y hy => absurd hy (by simp)) (bump6 G6 5) P.2.2.2.2.2.2.1, V⟩
      have W := E1.went (S := []) (S5 := [1]) ((FrM.rf _ _ _).wF 1 (by simp) (iI 0)) (by simp) (by simp) (by rw [hI_sI, u2_app, if_pos ⟨rfl, rfl⟩])
      obtain ⟨e1, e2, e3, e4⟩ := W
      refine ⟨?_, RefM_bump G6 e2 5 (by decide), ?_, ?_⟩
      · exact ⟨by rw [hI_sI, u2_ne (by decide)]; exact e1.1, fun i hi => absurd hi (Nat.not_lt_zero _)⟩
      · unfold MetM at e3 ⊢
        rw [hI_sI _ 108, u2_ne (by decide), u2_ne (by decide), u2_ne (by decide)]
        exact e3
      · rw [hI_sI _ 108, u2_ne (by decide)]
        exact e4
theorem S_cuts {n : Nat} {h : AH} (I : Inv n h) (hn : n < 512) (a1 : Int32) : StpI n h mX11_cuts mX12_cuts [.int a1] := by
  obtain ⟨r, r', nu, ts, idm, K, cf, PF, Ks, u, m, pn, bk, nv, tv, a, M, T, G, MT, st, x, fk, fp, C, L, D, E, P, V⟩ := I
  obtain ⟨b1, rfl, hb1⟩ := iI_self a1
  have rr : r = 12 ∨ r = 83 := C.1.2.1
  have X := C.1
  have ok := X.2.2.2.2.2.1
  have hl := P.2.2.2.2.2.2.2.2.1
  have G6 := P.2.2.2.2.2.2.2.2.2.1
  have hb := bytes_at P.2.2.2.2.2.2.2.1
  have t0 := P.2.1 0 (by decide)
  have na := P.1.at
  rcases C_cuts X t0 na.1.2 st L.2.2.2.1 T L.1 hl hb G L.2.1 G6 b1 hb1 with ⟨isf, h1, q1, f1, R1, r1⟩ | ⟨nof, q1⟩
  · obtain ⟨C1, D1, E1⟩ := lig1 C D E (FrR.c (O := []) f1) (by unfold scR; simp) (by simp) (fun _ _ => by rw [f1.2.2.2.1]) R1
    obtain ⟨v1, v2⟩ := V.2.2.2.2 isf.1
    rw [v1, v2] at D1 V
    rcases M_cuts C1.1.1 ok D1.2.1 D1.1 V.1 t0 na.1.2 st E1.2.2.2.1 T E1.1 hl hb G E1.2.1 b1 hb1 with ⟨-, h2, t1, f2, t3⟩ | ⟨nof, -⟩
    · obtain ⟨C2, D2, A2⟩ := lig2 C1 D1 f2 (by decide) (by decide)
      have L1 : CL h1 [] G MT st x fk fp := by
        obtain ⟨l1, l2, l3, l4⟩ := L
        refine ⟨r1, by rw [f1.2.2.2.2.2 2 (by simp)]; exact l2, by rw [f1.2.2.2.2.2 80 (by simp; omega)]; exact l3, ?_⟩
        rw [f1.2.2.2.1]; exact l4
      exact ⟨_, h1, h2, q1, t1, C1.1.1, r, r', nu, ts, idm, K, cf, PF, Ks, u, m, pn, bk, nu, ts, a, M, [], G, MT, st, x, fk, fp, C2, L1.m A2, D2, E1.went f2 (by decide) (by decide) t3, P.tape (Nat.zero_le _) (fun y hy => absurd hy (by simp)) G6 P.2.2.2.2.2.2.1, V⟩
    · exact absurd isf nof
  · have f1 : FrC [1, 2] [] h (sR (sR h 1 []) 2 (mI (bump G 3))) := ((FrC.rf _ _ h).put 1 (by simp) _).put 2 (by simp) _
    have R1 : RuC (sR (sR h 1 []) 2 (mI (bump G 3))) r nu ts := C.1.2.2.2.1.frC f1 (by simp; omega)
    obtain ⟨C1, D1, E1⟩ := lig1 C D E f1 (by unfold scR; simp) (by simp) (fun _ _ => rfl) R1
    rcases M_cuts C1.1.1 ok D1.2.1 D1.1 V.1 (V.2.1 0 (by decide)) V.2.2.1 st E1.2.2.2.1 T E1.1 hl hb G E1.2.1 b1 hb1 with ⟨isf, -⟩ | ⟨-, t1⟩
    · exact absurd isf nof
    · have f2 : FrM [108] [1] (sR (sR h 1 []) 2 (mI (bump G 3))) (sI (sI (sR (sR h 1 []) 2 (mI (bump G 3))) 95 1 (iI 0)) 108 3 (iI (G.getD 3 0 + 1))) := ((FrM.rf _ _ _).wF 1 (by simp) _).wI 108 _ (by simp) (by decide) _
      obtain ⟨C2, D2, A2⟩ := lig2 C1 D1 f2 (by decide) (by decide)
      have L1 : CL (sR (sR h 1 []) 2 (mI (bump G 3))) [] (bump G 3) MT st x fk fp := by
        obtain ⟨l1, l2, l3, l4⟩ := L
        exact ⟨by rw [hR_sRu, u1_ne (by decide), hR_sRu, u1_eq]; rfl, by rw [hR_sRu, u1_eq], by rw [hR_sRu, u1_ne (by decide), hR_sRu, u1_ne (by decide)]; exact l3, l4⟩
      refine ⟨_, _, _, q1, t1, C1.1.1, r, r', nu, ts, idm, K, cf, PF, Ks, u, m, pn, bk, nv, tv, a, M, [], bump G 3, MT, st, x, fk, fp, C2, L1.m A2, D2, ?_, P.tape (Nat.zero_le _) (fun y hy => absurd hy (by simp)) (bump6 G6 3) P.2.2.2.2.2.2.1, V⟩
      have W := E1.went (S := []) (S5 := [1]) ((FrM.rf _ _ _).wF 1 (by simp) (iI 0)) (by simp) (by simp) (by rw [hI_sI, u2_app, if_pos ⟨rfl, rfl⟩])
      obtain ⟨e1, e2, e3, e4⟩ := W
      refine ⟨?_, RefM_bump G6 e2 3 (by decide), ?_, ?_⟩
      · exact ⟨by rw [hI_sI, u2_ne (by decide)]; exact e1.1, fun i hi => absurd hi (Nat.not_lt_zero _)⟩
      · unfold MetM at e3 ⊢
        rw [hI_sI _ 108, u2_ne (by decide), u2_ne (by decide), u2_ne (by decide)]
        exact e3
      · rw [hI_sI _ 108, u2_ne (by decide)]
        exact e4
