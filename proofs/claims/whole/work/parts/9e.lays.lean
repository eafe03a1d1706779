/-! ===== L2: a piece is laid (reference) ===== -/
/-- k more entries have room in the log -/
def Lc (h : AH) (k : Nat) : Prop := ∃ n : Nat, hI h 95 37 = iI n ∧ n + k ≤ 60000
theorem Lc.put {h h' : AH} {k j : Nat} (L : Lc h (k + j)) (P : PutR j h h') : Lc h' k := by
  obtain ⟨n, h1, h2⟩ := L
  obtain ⟨n', a1, a2, a3, -⟩ := P.2.2 n h1 (by omega)
  exact ⟨n', a1, by omega⟩
theorem Lc.mono {h : AH} {k j : Nat} (L : Lc h k) (hj : j ≤ k) : Lc h j := by
  obtain ⟨n, h1, h2⟩ := L
  exact ⟨n, h1, by omega⟩
theorem m_lput {h : AH} (g : Gr h) {k : Nat} (a : Nat) (v : Int32) (ha : a < 42000) (L : Lc h (k + 1)) : ∃ h', mX12_puts [.ref 95, .int (iI (a : Int)), .int v] h = some (none, h') ∧ PutR 1 h h' ∧ hI h' 109 = u1 (hI h 109) a v ∧ Lc h' k := by
  obtain ⟨n, h1, h2⟩ := L
  obtain ⟨h', a1, a2, a3⟩ := m_puts g a v ha n h1 (by omega)
  exact ⟨h', a1, a2, a3, Lc.put ⟨n, h1, h2⟩ a2⟩
theorem KM.lay {h h' : AH} {K : KT} (R : KM h K) (f : FrM [109, 110, 111] [37] h h') (hk : kP K ≤ 10240) {X0 : BX} {d k : Int} {l : List Nat} {p : Nat} (hX : kX K = X0 ++ [(d, k, l)] ∨ (kX K = X0 ∧ l = [])) (hnp : p ∉ flat K) (hp : p < kP K) (hpl : ∀ q ∈ flat K, q < kP K) (hlen : X0.length < 300)
    (m5 : hI h' 109 5 = iI ((X0.length + 1 : Nat) : Int)) (md : hI h' 109 (58 + X0.length) = iI d) (mb : hI h' 109 (368 + X0.length) = iI k) (mp : hI h' 109 (11098 + p) = iI ((l.length : Nat) : Int)) (mx : hI h' 109 (798 + p) = iI ((X0.length + 1 : Nat) : Int))
    (mo : ∀ x, x ≠ 5 → x ≠ 58 + X0.length → x ≠ 368 + X0.length → x ≠ 11098 + p → x ≠ 798 + p → hI h' 109 x = hI h 109 x) : KM h' (setX K (X0 ++ [(d, k, l ++ [p])])) := by
  have kk : ∀ q, q ∉ [109, 110, 111] → q ≠ 95 → hI h' q = hI h q := f.2.2.2.2.1
  obtain ⟨r0, r1, r2, r3, r4, r5, r6, r7, r8, r9, r10, r11, r12, ⟨fr, q1, q2, q3⟩, r14⟩ := R
  have fl : flat (setX K (X0 ++ [(d, k, l ++ [p])])) = flat K ++ [p] := by
    rw [flat_setX, flt_app, flt_one]
    rcases hX with e | ⟨e, e2⟩
    · have : flat K = flt (X0 ++ [(d, k, l)]) := by rw [← e]; rfl
      rw [this, flt_app, flt_one, List.append_assoc]
    · have : flat K = flt X0 := by rw [← e]; rfl
      rw [this, e2]; rfl
  have old : ∀ j, j < X0.length → j < (kX K).length ∧ (kX K).getD j (0, 0, []) = X0.getD j (0, 0, []) := fun j hj => by
    rcases hX with e | ⟨e, -⟩
    · rw [e, List.length_append, List.getD_eq_getElem?_getD, List.getElem?_append_left hj, List.getD_eq_getElem?_getD]
      exact ⟨by omega, rfl⟩
    · rw [e]; exact ⟨hj, rfl⟩
  have inn : ∀ j, j < X0.length → ∀ i, i < (X0.getD j (0, 0, [])).2.2.length → (X0.getD j (0, 0, [])).2.2.getD i 0 ∈ flat K := fun j hj i hi => by
    obtain ⟨a1, a2⟩ := old j hj
    have h1 : i < (itm (kX K) j).length := by unfold itm; rw [a2]; exact hi
    have h2 := itm_mem h1
    unfold itm at h2
    rw [a2] at h2
    exact h2
  have X1 : ∀ j, j < X0.length → (X0 ++ [(d, k, l ++ [p])]).getD j (0, 0, []) = X0.getD j (0, 0, []) := fun j hj => by
    rw [List.getD_eq_getElem?_getD, List.getElem?_append_left hj, List.getD_eq_getElem?_getD]
  have X2 : (X0 ++ [(d, k, l ++ [p])]).getD X0.length (0, 0, []) = (d, k, l ++ [p]) := by
    rw [List.getD_eq_getElem?_getD, List.getElem?_append_right (Nat.le_refl _), Nat.sub_self]; rfl
  unfold KM
  rw [kk 113 (by decide) (by decide), kk 114 (by decide) (by decide), kk 115 (by decide) (by decide), kk 116 (by decide) (by decide), kk 117 (by decide) (by decide), kk 118 (by decide) (by decide), kk 119 (by decide) (by decide), fl]
  refine ⟨?_, ?_, ?_, ?_, ?_, ?_, ?_, fun b hb => ⟨?_, fun hf => ?_⟩, fun j hj => ?_, fun q hq => ⟨fun hn => ?_, ?_, (r9 q hq).2.2⟩, r10, r11, fun i hi => ⟨(r12 i hi).1, ?_⟩, ⟨fr, q1, ?_, q3⟩, fun i hi => ⟨?_, ?_, ?_⟩⟩
  · rw [mo 0 (by omega) (by omega) (by omega) (by omega) (by omega)]; exact r0
  · rw [mo 1 (by omega) (by omega) (by omega) (by omega) (by omega)]; exact r1
  · rw [mo 3 (by omega) (by omega) (by omega) (by omega) (by omega)]; exact r2
  · rw [mo 4 (by omega) (by omega) (by omega) (by omega) (by omega)]; exact r3
  · rw [m5]
    show _ = iI (((X0 ++ [(d, k, l ++ [p])]).length : Nat) : Int)
    rw [List.length_append]; rfl
  · rw [mo 6 (by omega) (by omega) (by omega) (by omega) (by omega)]; exact r5
  · rw [mo 7 (by omega) (by omega) (by omega) (by omega) (by omega)]; exact r6
  · rw [mo _ (by omega) (by omega) (by omega) (by omega) (by omega)]; exact (r7 b hb).1
  · obtain ⟨c1, c2, c3⟩ := (r7 b hb).2 hf
    rw [mo _ (by omega) (by omega) (by omega) (by omega) (by omega), mo (10 + 4 * b + 2) (by omega) (by omega) (by omega) (by omega) (by omega), mo (10 + 4 * b + 3) (by omega) (by omega) (by omega) (by omega) (by omega)]
    exact ⟨c1, c2, c3⟩
  · have hj' : j < X0.length + 1 := by
      have : j < (X0 ++ [(d, k, l ++ [p])]).length := hj
      rw [List.length_append] at this
      exact this
    show hI h' 109 (58 + j) = iI ((X0 ++ [(d, k, l ++ [p])]).getD j (0, 0, [])).1 ∧ hI h' 109 (368 + j) = iI ((X0 ++ [(d, k, l ++ [p])]).getD j (0, 0, [])).2.1 ∧ ∀ i, i < ((X0 ++ [(d, k, l ++ [p])]).getD j (0, 0, [])).2.2.length → hI h' 109 (798 + ((X0 ++ [(d, k, l ++ [p])]).getD j (0, 0, [])).2.2.getD i 0) = _ ∧ hI h' 109 (11098 + ((X0 ++ [(d, k, l ++ [p])]).getD j (0, 0, [])).2.2.getD i 0) = _
    by_cases z : j = X0.length
    · subst z
      rw [X2]
      refine ⟨md, mb, fun i hi => ?_⟩
      have hi' : i < l.length + 1 := by
        have : i < (l ++ [p]).length := hi
        rw [List.length_append] at this
        exact this
      show hI h' 109 (798 + (l ++ [p]).getD i 0) = _ ∧ hI h' 109 (11098 + (l ++ [p]).getD i 0) = _
      by_cases zi : i = l.length
      · have e : (l ++ [p]).getD i 0 = p := by rw [zi, List.getD_eq_getElem?_getD, List.getElem?_append_right (Nat.le_refl _), Nat.sub_self]; rfl
        rw [e, zi]
        exact ⟨mx, mp⟩
      · have hil : i < l.length := by omega
        have e : (l ++ [p]).getD i 0 = l.getD i 0 := by rw [List.getD_eq_getElem?_getD, List.getElem?_append_left hil, List.getD_eq_getElem?_getD]
        rcases hX with eX | ⟨-, e2⟩
        · have hj2 : X0.length < (kX K).length := by rw [eX, List.length_append]; simp
          have e3 : (kX K).getD X0.length (0, 0, []) = (d, k, l) := by rw [eX, List.getD_eq_getElem?_getD, List.getElem?_append_right (Nat.le_refl _), Nat.sub_self]; rfl
          have hit : i < (itm (kX K) X0.length).length := by unfold itm; rw [e3]; exact hil
          have hm := itm_mem hit
          unfold itm at hm
          rw [e3] at hm
          have hm' : l.getD i 0 ∈ flat K := hm
          have hne : l.getD i 0 ≠ p := fun z => hnp (z ▸ hm')
          have hlt := hpl _ hm'
          have o := (r8 X0.length hj2).2.2 i (by rw [e3]; exact hil)
          rw [e3] at o
          rw [e, mo _ (by omega) (by omega) (by omega) (by omega) (by omega), mo (11098 + l.getD i 0) (by omega) (by omega) (by omega) (by omega) (by omega)]
          exact o
        · rw [e2] at hil; exact absurd hil (by simp)
    · have hjl : j < X0.length := by omega
      rw [X1 j hjl]
      obtain ⟨a1, a2⟩ := old j hjl
      obtain ⟨o1, o2, o3⟩ := r8 j a1
      rw [a2] at o1 o2 o3
      refine ⟨?_, ?_, fun i hi => ?_⟩
      · rw [mo _ (by omega) (by omega) (by omega) (by omega) (by omega)]; exact o1
      · rw [mo _ (by omega) (by omega) (by omega) (by omega) (by omega)]; exact o2
      · have hm := inn j hjl i hi
        have hne : (X0.getD j (0, 0, [])).2.2.getD i 0 ≠ p := fun z => hnp (z ▸ hm)
        have hlt := hpl _ hm
        have o := o3 i hi
        generalize (X0.getD j (0, 0, [])).2.2.getD i 0 = q at *
        rw [mo _ (by omega) (by omega) (by omega) (by omega) (by omega), mo (11098 + q) (by omega) (by omega) (by omega) (by omega) (by omega)]
        exact o
  · have hq' : q < kP K := hq
    have h1 : q ∉ flat K := fun z => hn (List.mem_append_left _ z)
    have h2 : q ≠ p := fun z => hn (by rw [z]; simp)
    rw [mo _ (by omega) (by omega) (by omega) (by omega) (by omega)]
    exact (r9 q hq).1 h1
  · have hq' : q < kP K := hq
    rw [mo _ (by omega) (by omega) (by omega) (by omega) (by omega)]; exact (r9 q hq).2.1
  · rw [mo _ (by omega) (by omega) (by omega) (by omega) (by omega)]; exact (r12 i hi).2
  · rw [mo 2 (by omega) (by omega) (by omega) (by omega) (by omega)]; exact q2
  · have hi' : i < min (kK K).length 40 := hi
    rw [mo _ (by omega) (by omega) (by omega) (by omega) (by omega)]; exact (r14 i hi).1
  · have hi' : i < min (kK K).length 40 := hi
    rw [mo _ (by omega) (by omega) (by omega) (by omega) (by omega)]; exact (r14 i hi).2.1
  · have hi' : i < min (kK K).length 40 := hi
    rw [mo _ (by omega) (by omega) (by omega) (by omega) (by omega)]; exact (r14 i hi).2.2
theorem wrX_len (K : KT) (room d : Int) (X : BX) (p : Nat) : (wrX K room d X p).length ≤ X.length + 1 ∧ X.length ≤ (wrX K room d X p).length := by
  unfold wrX
  by_cases c : X.length = 0
  · rw [if_pos (Or.inl c), List.length_append, List.length_singleton]; omega
  · split
    · rw [List.length_append, List.length_singleton]; omega
    · rw [List.length_append, List.length_dropLast, List.length_singleton]; omega
theorem m_lays2 {h : AH} (g : Gr h) {bk : Nat} {nu : List Int} {ts : Nat → List (Int × Int)} {K : KT} (ok : KOw K) (R : KM h K) (Q : RuM h bk nu ts) (hnu : nuOk nu) (p : Nat) (hp : p < kP K) (hnp : p ∉ flat K) (hlen : (flat K).length < 300) {c : Nat} (L : Lc h (c + 5)) :
    ∃ h', mX12_lays [.ref 95, .int (iI (p : Int))] h = some (none, h') ∧ PutR (2 + 3 * ((wrX K (nu.getD 0 0) (kD K) (kX K) p).length - (kX K).length)) h h' ∧ KM h' (setX K (wrX K (nu.getD 0 0) (kD K) (kX K) p)) ∧ Lc h' c ∧ ZF (kP K) h h' := by
  have hP := ok.2.2.2.2.2.2.2.2.1
  have hxl := kX_lenW ok
  have n0 := hnu.at 0
  have d5 := R.2.2.2.2.1
  have d6 := R.2.2.2.2.2.1
  obtain ⟨c1, c2, -⟩ := ok.2.2.2.2.2.2.2.2.2.1 p hp
  have dp : hI h 115 p = iI (pLen K p) := (R.2.2.2.2.2.2.2.2.2.1 p hp).2.2
  have pl : 0 ≤ pLen K p ∧ pLen K p ≤ 60 := by unfold pLen; omega
  have i1 : ¬ (p : Int) < 0 ∧ p < 10300 := by omega
  have ey : mX12_by [.ref 95, .int (iI 0)] h = some (some (.int (iI (nu.getD 0 0))), h) := m_by g Q 0 (by decide)
  have a1 : 11098 + (p : Int) = ((11098 + p : Nat) : Int) := by omega
  have a2 : 798 + (p : Int) = ((798 + p : Nat) : Int) := by omega
  have z10 : ¬ (1 : Int) = 0 := by decide
  have newB : ∀ (b : Nat), b = (kX K).length → ∃ h1 h2 h3 h4 h5, mX12_puts [.ref 95, .int (iI ((58 + b : Nat) : Int)), .int (iI (kD K))] h = some (none, h1) ∧ mX12_puts [.ref 95, .int (iI ((368 + b : Nat) : Int)), .int (iI 0)] h1 = some (none, h2) ∧ mX12_puts [.ref 95, .int (iI ((5 : Nat) : Int)), .int (iI ((b + 1 : Nat) : Int))] h2 = some (none, h3) ∧ mX12_puts [.ref 95, .int (iI ((11098 + p : Nat) : Int)), .int (iI 0)] h3 = some (none, h4) ∧ mX12_puts [.ref 95, .int (iI ((798 + p : Nat) : Int)), .int (iI ((b + 1 : Nat) : Int))] h4 = some (none, h5) ∧ Gr h1 ∧ Gr h2 ∧ Gr h3 ∧ Gr h4 ∧ PutR 5 h h5 ∧ KM h5 (setX K (kX K ++ [(kD K, 0, [p])])) ∧ Lc h5 c ∧ ZF (kP K) h h5 := fun b hb => by
    obtain ⟨h1, e1, p1, m1, L1⟩ := m_lput (k := c + 4) g (58 + b) (iI (kD K)) (by omega) L
    have g1 := p1.1.gr g
    obtain ⟨h2, e2, p2, m2, L2⟩ := m_lput (k := c + 3) g1 (368 + b) (iI 0) (by omega) L1
    have g2 := p2.1.gr g1
    obtain ⟨h3, e3, p3, m3, L3⟩ := m_lput (k := c + 2) g2 5 (iI ((b + 1 : Nat) : Int)) (by omega) L2
    have g3 := p3.1.gr g2
    obtain ⟨h4, e4, p4, m4, L4⟩ := m_lput (k := c + 1) g3 (11098 + p) (iI 0) (by omega) L3
    have g4 := p4.1.gr g3
    obtain ⟨h5, e5, p5, m5, L5⟩ := m_lput (k := c) g4 (798 + p) (iI ((b + 1 : Nat) : Int)) (by omega) L4
    have pp : PutR 5 h h5 := (((p1.tr p2).tr p3).tr p4).tr p5
    refine ⟨h1, h2, h3, h4, h5, e1, e2, e3, e4, e5, g1, g2, g3, g4, pp, ?_, L5, fun x x1 x2 => by rw [m5, u1_ne (by omega), m4, u1_ne (by omega), m3, u1_ne (by omega), m2, u1_ne (by omega), m1, u1_ne (by omega)]⟩
    subst hb
    have M : hI h5 109 = u1 (u1 (u1 (u1 (u1 (hI h 109) (58 + (kX K).length) (iI (kD K))) (368 + (kX K).length) (iI 0)) 5 (iI (((kX K).length + 1 : Nat) : Int))) (11098 + p) (iI 0)) (798 + p) (iI (((kX K).length + 1 : Nat) : Int)) := by rw [m5, m4, m3, m2, m1]
    refine R.lay pp.1 hP (X0 := kX K) (d := kD K) (k := 0) (l := []) (Or.inr ⟨rfl, rfl⟩) hnp hp ok.2.2.1 (by omega) ?_ ?_ ?_ ?_ ?_ ?_
    · rw [M, u1_ne (by omega), u1_ne (by omega), u1_eq]
    · rw [M, u1_ne (by omega), u1_ne (by omega), u1_ne (by omega), u1_ne (by omega), u1_eq]
    · rw [M, u1_ne (by omega), u1_ne (by omega), u1_ne (by omega), u1_eq]
    · rw [M, u1_ne (by omega), u1_eq]; rfl
    · rw [M, u1_eq]
    · intro x q1 q2 q3 q4 q5
      rw [M, u1_ne q5, u1_ne q4, u1_ne q1, u1_ne q3, u1_ne q2]
  unfold wrX
  by_cases k1 : (kX K).length = 0
  · rw [if_pos (Or.inl k1)]
    obtain ⟨h1, h2, h3, h4, h5, e1, e2, e3, e4, e5, g1, g2, g3, g4, pp, km, L5, zz⟩ := newB 0 k1.symm
    rw [k1] at d5
    refine ⟨h5, ?_, by rw [List.length_append, Nat.add_sub_cancel_left]; exact pp, km, L5, zz⟩
    simp only [Int.natCast_zero] at d5
    have e1' : mX12_puts [.ref 95, .int (iI 58), .int (iI (kD K))] h = some (none, h1) := e1
    have e2' : mX12_puts [.ref 95, .int (iI 368), .int (iI 0)] h1 = some (none, h2) := e2
    have e3' : mX12_puts [.ref 95, .int (iI 5), .int (iI 1)] h2 = some (none, h3) := e3
    have e5' : mX12_puts [.ref 95, .int (iI ((798 + p : Nat) : Int)), .int (iI 1)] h4 = some (none, h5) := e5
    simp -implicitDefEqProofs (disch := omega) only [bind_ite, ev_itea, ev_seq, ev_seq0, ev_seq1, ev_seq2, ev_seqr, ev_if, ev_ift, ev_iff, ev_ifd, ev_ife, ev_ifet, ev_ifef, ev_ifed, ev_skip, ev_cont, ev_brk, ev_retV, ev_retI, ev_retIv, ev_retL, ev_retLv, ev_retR, ev_retRv, ev_for, ev_for0, ev_for2, ev_for1, ev_forr, ev_sc, ev_scv, ev_ex, ev_exv, ev_lsI, ev_lsIv, ev_lsL, ev_lsLv, ev_lsR, ev_lsRv, ev_ciI, ev_clL, ev_lvI0, ev_lvL0, ev_lvR0, ev_inc0, ev_s1_0, ev_s2_0, ev_lvI1, ev_lvL1, ev_lvR1, ev_inc1, ev_s1_1i, ev_s2_1i, ev_s1_1r, ev_s2_1r, ev_s1_1u, ev_s2_1u, ev_s1_1s, ev_s2_1s, ev_lvI2, ev_lvL2, ev_lvR2, ev_inc2, ev_s1_2i, ev_s2_2i, ev_s1_2r, ev_s2_2r, ev_s1_2u, ev_s2_2u, ev_s1_2s, ev_s2_2s, ev_lvI3, ev_lvL3, ev_lvR3, ev_inc3, ev_s1_3i, ev_s2_3i, ev_s1_3r, ev_s2_3r, ev_s1_3u, ev_s2_3u, ev_s1_3s, ev_s2_3s, ev_lvI4, ev_lvL4, ev_lvR4, ev_inc4, ev_s1_4i, ev_s2_4i, ev_s1_4r, ev_s2_4r, ev_s1_4u, ev_s2_4u, ev_s1_4s, ev_s2_4s, ev_lvI5, ev_lvL5, ev_lvR5, ev_inc5, ev_s1_5i, ev_s2_5i, ev_s1_5r, ev_s2_5r, ev_s1_5u, ev_s2_5u, ev_s1_5s, ev_s2_5s, ev_lvI6, ev_lvL6, ev_lvR6, ev_inc6, ev_s1_6i, ev_s2_6i, ev_s1_6r, ev_s2_6r, ev_s1_6u, ev_s2_6u, ev_s1_6s, ev_s2_6s, ev_lvI7, ev_lvL7, ev_lvR7, ev_inc7, ev_s1_7i, ev_s2_7i, ev_s1_7r, ev_s2_7r, ev_s1_7u, ev_s2_7u, ev_s1_7s, ev_s2_7s, ev_lvI8, ev_lvL8, ev_lvR8, ev_inc8, ev_s1_8i, ev_s2_8i, ev_s1_8r, ev_s2_8r, ev_s1_8u, ev_s2_8u, ev_s1_8s, ev_s2_8s, ev_lvI9, ev_lvL9, ev_lvR9, ev_inc9, ev_s1_9i, ev_s2_9i, ev_s1_9r, ev_s2_9r, ev_s1_9u, ev_s2_9u, ev_s1_9s, ev_s2_9s, ev_lvI10, ev_lvL10, ev_lvR10, ev_inc10, ev_s1_10i, ev_s2_10i, ev_s1_10r, ev_s2_10r, ev_s1_10u, ev_s2_10u, ev_s1_10s, ev_s2_10s, ev_lvI11, ev_lvL11, ev_lvR11, ev_inc11, ev_s1_11i, ev_s2_11i, ev_s1_11r, ev_s2_11r, ev_s1_11u, ev_s2_11u, ev_s1_11s, ev_s2_11s, ev_lvI12, ev_lvL12, ev_lvR12, ev_inc12, ev_s1_12i, ev_s2_12i, ev_s1_12r, ev_s2_12r, ev_s1_12u, ev_s2_12u, ev_s1_12s, ev_s2_12s, ev_lvI13, ev_lvL13, ev_lvR13, ev_inc13, ev_s1_13i, ev_s2_13i, ev_s1_13r, ev_s2_13r, ev_s1_13u, ev_s2_13u, ev_s1_13s, ev_s2_13s, ev_cut1_0, ev_cut1_1, ev_cut2_0, ev_cut2_1, ev_cut2_2, ev_cut3_0, ev_cut3_1, ev_cut3_2, ev_cut3_3, ev_cut4_0, ev_cut4_1, ev_cut4_2, ev_cut4_3, ev_cut4_4, ev_cut5_0, ev_cut5_1, ev_cut5_2, ev_cut5_3, ev_cut5_4, ev_cut5_5, ev_cut6_0, ev_cut6_1, ev_cut6_2, ev_cut6_3, ev_cut6_4, ev_cut6_5, ev_cut6_6, ev_cut7_0, ev_cut7_1, ev_cut7_2, ev_cut7_3, ev_cut7_4, ev_cut7_5, ev_cut7_6, ev_cut7_7, ev_cut8_0, ev_cut8_1, ev_cut8_2, ev_cut8_3, ev_cut8_4, ev_cut8_5, ev_cut8_6, ev_cut8_7, ev_cut8_8, ev_cut9_0, ev_cut9_1, ev_cut9_2, ev_cut9_3, ev_cut9_4, ev_cut9_5, ev_cut9_6, ev_cut9_7, ev_cut9_8, ev_cut9_9, ev_cut10_0, ev_cut10_1, ev_cut10_2, ev_cut10_3, ev_cut10_4, ev_cut10_5, ev_cut10_6, ev_cut10_7, ev_cut10_8, ev_cut10_9, ev_cut10_10, ev_cut11_0, ev_cut11_1, ev_cut11_2, ev_cut11_3, ev_cut11_4, ev_cut11_5, ev_cut11_6, ev_cut11_7, ev_cut11_8, ev_cut11_9, ev_cut11_10, ev_cut11_11, ev_cut12_0, ev_cut12_1, ev_cut12_2, ev_cut12_3, ev_cut12_4, ev_cut12_5, ev_cut12_6, ev_cut12_7, ev_cut12_8, ev_cut12_9, ev_cut12_10, ev_cut12_11, ev_cut12_12, ev_cut13_0, ev_cut13_1, ev_cut13_2, ev_cut13_3, ev_cut13_4, ev_cut13_5, ev_cut13_6, ev_cut13_7, ev_cut13_8, ev_cut13_9, ev_cut13_10, ev_cut13_11, ev_cut13_12, ev_cut13_13, ev_bin, ev_addI, ev_addIv, ev_subI, ev_subIv, ev_mulI, ev_mulIv, ev_andI, ev_andIv, ev_orI, ev_orIv, ev_xorI, ev_xorIv, ev_shlI, ev_shlIv, ev_shrI, ev_shrIv, ev_ushrI, ev_ushrIv, ev_addL, ev_addLv, ev_subL, ev_subLv, ev_mulL, ev_mulLv, ev_andL, ev_andLv, ev_orL, ev_orLv, ev_shlL, ev_shlLv, ev_divI, ev_divIv, ev_remI, ev_remIv, ev_divL, ev_divLv, ev_remL, ev_remLv, ev_eqI, ev_eqIv, ev_eqL, ev_eqLv, ev_eq0, ev_eq0v, ev_neI, ev_neIv, ev_neL, ev_neLv, ev_ne0, ev_ne0v, ev_ltI, ev_ltIv, ev_ltL, ev_ltLv, ev_lt0, ev_lt0v, ev_geI, ev_geIv, ev_geL, ev_geLv, ev_ge0, ev_ge0v, ev_gtI, ev_gtIv, ev_gtL, ev_gtLv, ev_gt0, ev_gt0v, ev_leI, ev_leIv, ev_leL, ev_leLv, ev_le0, ev_le0v, ev_i2L, ev_i2Lv, ev_l2I, ev_l2Iv, ev_nul, ev_nuls, ev_nuln, ev_andX, ev_andXt, ev_andXf, ev_andXd, ev_orX, ev_orXt, ev_orXf, ev_orXd, ev_notX, ev_notXv, ev_notd, ev_iteX, ev_iteXt, ev_iteXf, ev_iteXd, ev_getI, ev_getIv, ev_getL, ev_getLv, ev_getR, ev_getRv, ev_rsz, ev_rszv, ev_aldI, ev_aldIq, ev_aldIv, ev_aldL, ev_aldLq, ev_aldLv, ev_aldR, ev_aldRq, ev_aldRv, ev_aln, ev_putI, ev_putIq, ev_putIv, ev_putZ, ev_putZq, ev_putZv, ev_putL, ev_putLq, ev_putLv, ev_putR, ev_putRq, ev_putRv, ev_astI, ev_astIq, ev_astIi, ev_astIv, ev_astZ, ev_astZq, ev_astZi, ev_astZv, ev_astL, ev_astLq, ev_astLi, ev_astLv, ev_astR, ev_upd, ev_updq, ev_updv, ev_ina, ev_inaq, ev_inav, ev_rzs, ev_rzsq, ev_rzsv, ev_sw, ev_swx, ev_swr, ev_agN, ev_agC, ev_agi, ev_agl, ev_agr, ev_ag2, ev_calX, ev_calv, ev_decI, ev_decL, ev_decR, ev_calS, ev_clsv, ev_clsd, ev_ck0, ev_ck1, ev_cs1, ev_ck2, ev_cs2, ev_ck3, ev_cs3, ev_ck4, ev_cs4, ev_ck5, ev_cs5, ev_finV, ev_finI, ev_finL, ev_finR, ev_fin1, ev_fin0, ev_finZ, ev_newO, ev_newv, ev_newR, ev_newA, ev_newAv, ev_oi, ev_oiv, Option.bind_some, Option.bind_none, Option.bind_fun_some, reduceCtorEq, reduceIte, List.take_zero, Sum.inl.injEq, Sum.inr.injEq, Option.some.injEq, Prod.mk.injEq, Nat.reduceEqDiff, Nat.reduceAdd, Nat.reduceSub, Nat.reduceMul, Nat.reduceLT, Nat.reduceLeDiff, decide_true, decide_false, decide_eq_true_eq, decide_eq_false_iff_not, Bool.and_true, Bool.true_and, Bool.and_false, Bool.false_and, Bool.false_or, Bool.or_false, Bool.true_or, Bool.or_true, Bool.and_self, Bool.or_self, true_or, or_true, and_true, true_and, false_and, and_false, false_or, or_false, not_true_eq_false, not_false_eq_true, Bool.not_true, Bool.not_false, Bool.false_eq_true, and_self, ite_true, ite_false, eq_self, hT_sR, hP_sR, hI_sR, hL_sR, hN_sR, hR_sRu, hT_sI, hP_sI, hR_sI, hL_sI, hN_sI, hI_sI, hT_sL, hP_sL, hR_sL, hI_sL, hN_sL, hL_sL, hT_sP, hR_sP, hI_sP, hL_sP, hN_sP, hP_sP, u1_app, u2_app, hT_sA, hP_sA, hR_sA, hL_sA, hN_sA, hI_sA, sI_sA, sI_sI, sA_sA, sA_sI, hT_sLA, hP_sLA, hR_sLA, hI_sLA, hN_sLA, hL_sLA, sL_sLA, eX12_lays, bX12_lays, gT95 g, gT96 g, gT97 g, gT98 g, gT99 g, gT100 g, gT101 g, gT102 g, gT103 g, gT104 g, gT105 g, gT106 g, gT107 g, gT108 g, gT109 g, gT110 g, gT111 g, gT112 g, gT113 g, gT114 g, gT115 g, gT116 g, gT117 g, gT118 g, gT119 g, gT120 g, gT121 g, gT122 g, gT123 g, gT124 g, gT125 g, gT126 g, gT127 g, gT128 g, gT129 g, gT130 g, gT131 g, gT132 g, gT133 g, gT134 g, gT135 g, gT136 g, gP95_0 g, gP95_14 g, gP95_15 g, gP95_16 g, gP95_17 g, gP95_18 g, gP95_22 g, gP95_23 g, gP95_24 g, gP95_25 g, gP95_26 g, gP95_29 g, gP95_33 g, gP95_34 g, gP95_35 g, gP95_36 g, gP95_38 g, gP95_41 g, gP95_42 g, gP95_43 g, gP95_44 g, gP95_45 g, gP95_46 g, gP95_47 g, gP95_48 g, gP95_49 g, gP95_50 g, gP95_52 g, gP95_54 g, gP95_55 g, gP95_56 g, gP95_57 g, gP95_58 g, gP95_60 g, gP95_61 g, gP95_62 g, gP95_63 g, gP95_64 g, gP95_66 g, gP95_67 g, gP95_68 g, gT95 g1, gT96 g1, gT97 g1, gT98 g1, gT99 g1, gT100 g1, gT101 g1, gT102 g1, gT103 g1, gT104 g1, gT105 g1, gT106 g1, gT107 g1, gT108 g1, gT109 g1, gT110 g1, gT111 g1, gT112 g1, gT113 g1, gT114 g1, gT115 g1, gT116 g1, gT117 g1, gT118 g1, gT119 g1, gT120 g1, gT121 g1, gT122 g1, gT123 g1, gT124 g1, gT125 g1, gT126 g1, gT127 g1, gT128 g1, gT129 g1, gT130 g1, gT131 g1, gT132 g1, gT133 g1, gT134 g1, gT135 g1, gT136 g1, gP95_0 g1, gP95_14 g1, gP95_15 g1, gP95_16 g1, gP95_17 g1, gP95_18 g1, gP95_22 g1, gP95_23 g1, gP95_24 g1, gP95_25 g1, gP95_26 g1, gP95_29 g1, gP95_33 g1, gP95_34 g1, gP95_35 g1, gP95_36 g1, gP95_38 g1, gP95_41 g1, gP95_42 g1, gP95_43 g1, gP95_44 g1, gP95_45 g1, gP95_46 g1, gP95_47 g1, gP95_48 g1, gP95_49 g1, gP95_50 g1, gP95_52 g1, gP95_54 g1, gP95_55 g1, gP95_56 g1, gP95_57 g1, gP95_58 g1, gP95_60 g1, gP95_61 g1, gP95_62 g1, gP95_63 g1, gP95_64 g1, gP95_66 g1, gP95_67 g1, gP95_68 g1, gT95 g2, gT96 g2, gT97 g2, gT98 g2, gT99 g2, gT100 g2, gT101 g2, gT102 g2, gT103 g2, gT104 g2, gT105 g2, gT106 g2, gT107 g2, gT108 g2, gT109 g2, gT110 g2, gT111 g2, gT112 g2, gT113 g2, gT114 g2, gT115 g2, gT116 g2, gT117 g2, gT118 g2, gT119 g2, gT120 g2, gT121 g2, gT122 g2, gT123 g2, gT124 g2, gT125 g2, gT126 g2, gT127 g2, gT128 g2, gT129 g2, gT130 g2, gT131 g2, gT132 g2, gT133 g2, gT134 g2, gT135 g2, gT136 g2, gP95_0 g2, gP95_14 g2, gP95_15 g2, gP95_16 g2, gP95_17 g2, gP95_18 g2, gP95_22 g2, gP95_23 g2, gP95_24 g2, gP95_25 g2, gP95_26 g2, gP95_29 g2, gP95_33 g2, gP95_34 g2, gP95_35 g2, gP95_36 g2, gP95_38 g2, gP95_41 g2, gP95_42 g2, gP95_43 g2, gP95_44 g2, gP95_45 g2, gP95_46 g2, gP95_47 g2, gP95_48 g2, gP95_49 g2, gP95_50 g2, gP95_52 g2, gP95_54 g2, gP95_55 g2, gP95_56 g2, gP95_57 g2, gP95_58 g2, gP95_60 g2, gP95_61 g2, gP95_62 g2, gP95_63 g2, gP95_64 g2, gP95_66 g2, gP95_67 g2, gP95_68 g2, gT95 g3, gT96 g3, gT97 g3, gT98 g3, gT99 g3, gT100 g3, gT101 g3, gT102 g3, gT103 g3, gT104 g3, gT105 g3, gT106 g3, gT107 g3, gT108 g3, gT109 g3, gT110 g3, gT111 g3, gT112 g3, gT113 g3, gT114 g3, gT115 g3, gT116 g3, gT117 g3, gT118 g3, gT119 g3, gT120 g3, gT121 g3, gT122 g3, gT123 g3, gT124 g3, gT125 g3, gT126 g3, gT127 g3, gT128 g3, gT129 g3, gT130 g3, gT131 g3, gT132 g3, gT133 g3, gT134 g3, gT135 g3, gT136 g3, gP95_0 g3, gP95_14 g3, gP95_15 g3, gP95_16 g3, gP95_17 g3, gP95_18 g3, gP95_22 g3, gP95_23 g3, gP95_24 g3, gP95_25 g3, gP95_26 g3, gP95_29 g3, gP95_33 g3, gP95_34 g3, gP95_35 g3, gP95_36 g3, gP95_38 g3, gP95_41 g3, gP95_42 g3, gP95_43 g3, gP95_44 g3, gP95_45 g3, gP95_46 g3, gP95_47 g3, gP95_48 g3, gP95_49 g3, gP95_50 g3, gP95_52 g3, gP95_54 g3, gP95_55 g3, gP95_56 g3, gP95_57 g3, gP95_58 g3, gP95_60 g3, gP95_61 g3, gP95_62 g3, gP95_63 g3, gP95_64 g3, gP95_66 g3, gP95_67 g3, gP95_68 g3, gT95 g4, gT96 g4, gT97 g4, gT98 g4, gT99 g4, gT100 g4, gT101 g4, gT102 g4, gT103 g4, gT104 g4, gT105 g4, gT106 g4, gT107 g4, gT108 g4, gT109 g4, gT110 g4, gT111 g4, gT112 g4, gT113 g4, gT114 g4, gT115 g4, gT116 g4, gT117 g4, gT118 g4, gT119 g4, gT120 g4, gT121 g4, gT122 g4, gT123 g4, gT124 g4, gT125 g4, gT126 g4, gT127 g4, gT128 g4, gT129 g4, gT130 g4, gT131 g4, gT132 g4, gT133 g4, gT134 g4, gT135 g4, gT136 g4, gP95_0 g4, gP95_14 g4, gP95_15 g4, gP95_16 g4, gP95_17 g4, gP95_18 g4, gP95_22 g4, gP95_23 g4, gP95_24 g4, gP95_25 g4, gP95_26 g4, gP95_29 g4, gP95_33 g4, gP95_34 g4, gP95_35 g4, gP95_36 g4, gP95_38 g4, gP95_41 g4, gP95_42 g4, gP95_43 g4, gP95_44 g4, gP95_45 g4, gP95_46 g4, gP95_47 g4, gP95_48 g4, gP95_49 g4, gP95_50 g4, gP95_52 g4, gP95_54 g4, gP95_55 g4, gP95_56 g4, gP95_57 g4, gP95_58 g4, gP95_60 g4, gP95_61 g4, gP95_62 g4, gP95_63 g4, gP95_64 g4, gP95_66 g4, gP95_67 g4, gP95_68 g4, iI_lt2, iI_le2, iI_eq2, iI_lt0, iI_0lt, iI_le0, iI_0le, iI_eq0, iI_eq1, iI_nat2, iI_add, iI_sub, iI_mul, Int.toNat_natCast, if_pos, if_neg, d5, d6, e1', e2', e3', e4, e5', a1, a2, z10, show (5:Int).toNat = 5 from rfl, show (6:Int).toNat = 6 from rfl, show (0:Int) - 1 = -1 from rfl, show (-1:Int) + 1 = 0 from rfl, show (0:Int) + 1 = 1 from rfl, show (58:Int) + 0 = 58 from rfl, show (368:Int) + 0 = 368 from rfl, show ((-1:Int) < 0) = True from eq_true (by decide)]
  · have hs := last_split (kX K) k1
    have hdl : (kX K).dropLast.length + 1 = (kX K).length := by
      have := congrArg List.length hs
      rw [List.length_append, List.length_singleton] at this
      exact this.symm
    have hit : itm (kX K) (kX K).dropLast.length = ((kX K).getLastD (0, 0, [])).2.2 := by
      unfold itm
      conv => lhs; rw [hs]
      rw [List.getD_eq_getElem?_getD, List.getElem?_append_right (by simp)]
      simp
    have eb := m_bytesInW g ok R (kX K).dropLast.length (by omega)
    have ep := m_piecesInW g ok R (kX K).dropLast.length (by omega)
    have bb : ((itm (kX K) (kX K).dropLast.length).map (pLen K)).sum = byt K ((kX K).getLastD (0, 0, [])) := by rw [hit]; rfl
    rw [bb] at eb
    rw [hit] at ep
    have hLm : ∀ q ∈ ((kX K).getLastD (0, 0, [])).2.2, q ∈ flat K := fun q hq => by
      show q ∈ flt (kX K)
      rw [hs, flt_app, flt_one]
      exact List.mem_append_right _ hq
    have hLl : ((kX K).getLastD (0, 0, [])).2.2.length ≤ (flat K).length := by
      have : (flat K).length = (flt (kX K).dropLast).length + ((kX K).getLastD (0, 0, [])).2.2.length := by
        show (flt (kX K)).length = _
        conv => lhs; rw [hs, flt_app, flt_one, List.length_append]
      omega
    have hbr : 0 ≤ byt K ((kX K).getLastD (0, 0, [])) ∧ byt K ((kX K).getLastD (0, 0, [])) ≤ 60 * ((kX K).getLastD (0, 0, [])).2.2.length := sum_rg (pLen K) 60 _ (fun q hq => by
      have := ok.2.2.2.2.2.2.2.2.2.1 q (ok.2.2.1 q (hLm q hq))
      unfold pLen
      omega)
    have e0 : (((kX K).length : Nat) : Int) - 1 = (((kX K).dropLast.length : Nat) : Int) := by omega
    have k0 : ¬ (((kX K).dropLast.length : Nat) : Int) < 0 := by omega
    generalize (kX K).getLastD (0, 0, []) = Lb at *
    by_cases k2 : nu.getD 0 0 < byt K Lb + pLen K p
    · rw [if_pos (Or.inr k2)]
      obtain ⟨h1, h2, h3, h4, h5, e1, e2, e3, e4, e5, g1, g2, g3, g4, pp, km, L5, zz⟩ := newB (kX K).length rfl
      refine ⟨h5, ?_, by rw [List.length_append, Nat.add_sub_cancel_left]; exact pp, km, L5, zz⟩
      have q1 : (((kX K).dropLast.length : Nat) : Int) + 1 = (((kX K).length : Nat) : Int) := by omega
      have q2 : 58 + (((kX K).length : Nat) : Int) = ((58 + (kX K).length : Nat) : Int) := by omega
      have q3 : 368 + (((kX K).length : Nat) : Int) = ((368 + (kX K).length : Nat) : Int) := by omega
      have q4 : (((kX K).length : Nat) : Int) + 1 = (((kX K).length + 1 : Nat) : Int) := by omega
      have e3' : mX12_puts [.ref 95, .int (iI 5), .int (iI (((kX K).length + 1 : Nat) : Int))] h2 = some (none, h3) := e3
      simp -implicitDefEqProofs (disch := omega) only [bind_ite, ev_itea, ev_seq, ev_seq0, ev_seq1, ev_seq2, ev_seqr, ev_if, ev_ift, ev_iff, ev_ifd, ev_ife, ev_ifet, ev_ifef, ev_ifed, ev_skip, ev_cont, ev_brk, ev_retV, ev_retI, ev_retIv, ev_retL, ev_retLv, ev_retR, ev_retRv, ev_for, ev_for0, ev_for2, ev_for1, ev_forr, ev_sc, ev_scv, ev_ex, ev_exv, ev_lsI, ev_lsIv, ev_lsL, ev_lsLv, ev_lsR, ev_lsRv, ev_ciI, ev_clL, ev_lvI0, ev_lvL0, ev_lvR0, ev_inc0, ev_s1_0, ev_s2_0, ev_lvI1, ev_lvL1, ev_lvR1, ev_inc1, ev_s1_1i, ev_s2_1i, ev_s1_1r, ev_s2_1r, ev_s1_1u, ev_s2_1u, ev_s1_1s, ev_s2_1s, ev_lvI2, ev_lvL2, ev_lvR2, ev_inc2, ev_s1_2i, ev_s2_2i, ev_s1_2r, ev_s2_2r, ev_s1_2u, ev_s2_2u, ev_s1_2s, ev_s2_2s, ev_lvI3, ev_lvL3, ev_lvR3, ev_inc3, ev_s1_3i, ev_s2_3i, ev_s1_3r, ev_s2_3r, ev_s1_3u, ev_s2_3u, ev_s1_3s, ev_s2_3s, ev_lvI4, ev_lvL4, ev_lvR4, ev_inc4, ev_s1_4i, ev_s2_4i, ev_s1_4r, ev_s2_4r, ev_s1_4u, ev_s2_4u, ev_s1_4s, ev_s2_4s, ev_lvI5, ev_lvL5, ev_lvR5, ev_inc5, ev_s1_5i, ev_s2_5i, ev_s1_5r, ev_s2_5r, ev_s1_5u, ev_s2_5u, ev_s1_5s, ev_s2_5s, ev_lvI6, ev_lvL6, ev_lvR6, ev_inc6, ev_s1_6i, ev_s2_6i, ev_s1_6r, ev_s2_6r, ev_s1_6u, ev_s2_6u, ev_s1_6s, ev_s2_6s, ev_lvI7, ev_lvL7, ev_lvR7, ev_inc7, ev_s1_7i, ev_s2_7i, ev_s1_7r, ev_s2_7r, ev_s1_7u, ev_s2_7u, ev_s1_7s, ev_s2_7s, ev_lvI8, ev_lvL8, ev_lvR8, ev_inc8, ev_s1_8i, ev_s2_8i, ev_s1_8r, ev_s2_8r, ev_s1_8u, ev_s2_8u, ev_s1_8s, ev_s2_8s, ev_lvI9, ev_lvL9, ev_lvR9, ev_inc9, ev_s1_9i, ev_s2_9i, ev_s1_9r, ev_s2_9r, ev_s1_9u, ev_s2_9u, ev_s1_9s, ev_s2_9s, ev_lvI10, ev_lvL10, ev_lvR10, ev_inc10, ev_s1_10i, ev_s2_10i, ev_s1_10r, ev_s2_10r, ev_s1_10u, ev_s2_10u, ev_s1_10s, ev_s2_10s, ev_lvI11, ev_lvL11, ev_lvR11, ev_inc11, ev_s1_11i, ev_s2_11i, ev_s1_11r, ev_s2_11r, ev_s1_11u, ev_s2_11u, ev_s1_11s, ev_s2_11s, ev_lvI12, ev_lvL12, ev_lvR12, ev_inc12, ev_s1_12i, ev_s2_12i, ev_s1_12r, ev_s2_12r, ev_s1_12u, ev_s2_12u, ev_s1_12s, ev_s2_12s, ev_lvI13, ev_lvL13, ev_lvR13, ev_inc13, ev_s1_13i, ev_s2_13i, ev_s1_13r, ev_s2_13r, ev_s1_13u, ev_s2_13u, ev_s1_13s, ev_s2_13s, ev_cut1_0, ev_cut1_1, ev_cut2_0, ev_cut2_1, ev_cut2_2, ev_cut3_0, ev_cut3_1, ev_cut3_2, ev_cut3_3, ev_cut4_0, ev_cut4_1, ev_cut4_2, ev_cut4_3, ev_cut4_4, ev_cut5_0, ev_cut5_1, ev_cut5_2, ev_cut5_3, ev_cut5_4, ev_cut5_5, ev_cut6_0, ev_cut6_1, ev_cut6_2, ev_cut6_3, ev_cut6_4, ev_cut6_5, ev_cut6_6, ev_cut7_0, ev_cut7_1, ev_cut7_2, ev_cut7_3, ev_cut7_4, ev_cut7_5, ev_cut7_6, ev_cut7_7, ev_cut8_0, ev_cut8_1, ev_cut8_2, ev_cut8_3, ev_cut8_4, ev_cut8_5, ev_cut8_6, ev_cut8_7, ev_cut8_8, ev_cut9_0, ev_cut9_1, ev_cut9_2, ev_cut9_3, ev_cut9_4, ev_cut9_5, ev_cut9_6, ev_cut9_7, ev_cut9_8, ev_cut9_9, ev_cut10_0, ev_cut10_1, ev_cut10_2, ev_cut10_3, ev_cut10_4, ev_cut10_5, ev_cut10_6, ev_cut10_7, ev_cut10_8, ev_cut10_9, ev_cut10_10, ev_cut11_0, ev_cut11_1, ev_cut11_2, ev_cut11_3, ev_cut11_4, ev_cut11_5, ev_cut11_6, ev_cut11_7, ev_cut11_8, ev_cut11_9, ev_cut11_10, ev_cut11_11, ev_cut12_0, ev_cut12_1, ev_cut12_2, ev_cut12_3, ev_cut12_4, ev_cut12_5, ev_cut12_6, ev_cut12_7, ev_cut12_8, ev_cut12_9, ev_cut12_10, ev_cut12_11, ev_cut12_12, ev_cut13_0, ev_cut13_1, ev_cut13_2, ev_cut13_3, ev_cut13_4, ev_cut13_5, ev_cut13_6, ev_cut13_7, ev_cut13_8, ev_cut13_9, ev_cut13_10, ev_cut13_11, ev_cut13_12, ev_cut13_13, ev_bin, ev_addI, ev_addIv, ev_subI, ev_subIv, ev_mulI, ev_mulIv, ev_andI, ev_andIv, ev_orI, ev_orIv, ev_xorI, ev_xorIv, ev_shlI, ev_shlIv, ev_shrI, ev_shrIv, ev_ushrI, ev_ushrIv, ev_addL, ev_addLv, ev_subL, ev_subLv, ev_mulL, ev_mulLv, ev_andL, ev_andLv, ev_orL, ev_orLv, ev_shlL, ev_shlLv, ev_divI, ev_divIv, ev_remI, ev_remIv, ev_divL, ev_divLv, ev_remL, ev_remLv, ev_eqI, ev_eqIv, ev_eqL, ev_eqLv, ev_eq0, ev_eq0v, ev_neI, ev_neIv, ev_neL, ev_neLv, ev_ne0, ev_ne0v, ev_ltI, ev_ltIv, ev_ltL, ev_ltLv, ev_lt0, ev_lt0v, ev_geI, ev_geIv, ev_geL, ev_geLv, ev_ge0, ev_ge0v, ev_gtI, ev_gtIv, ev_gtL, ev_gtLv, ev_gt0, ev_gt0v, ev_leI, ev_leIv, ev_leL, ev_leLv, ev_le0, ev_le0v, ev_i2L, ev_i2Lv, ev_l2I, ev_l2Iv, ev_nul, ev_nuls, ev_nuln, ev_andX, ev_andXt, ev_andXf, ev_andXd, ev_orX, ev_orXt, ev_orXf, ev_orXd, ev_notX, ev_notXv, ev_notd, ev_iteX, ev_iteXt, ev_iteXf, ev_iteXd, ev_getI, ev_getIv, ev_getL, ev_getLv, ev_getR, ev_getRv, ev_rsz, ev_rszv, ev_aldI, ev_aldIq, ev_aldIv, ev_aldL, ev_aldLq, ev_aldLv, ev_aldR, ev_aldRq, ev_aldRv, ev_aln, ev_putI, ev_putIq, ev_putIv, ev_putZ, ev_putZq, ev_putZv, ev_putL, ev_putLq, ev_putLv, ev_putR, ev_putRq, ev_putRv, ev_astI, ev_astIq, ev_astIi, ev_astIv, ev_astZ, ev_astZq, ev_astZi, ev_astZv, ev_astL, ev_astLq, ev_astLi, ev_astLv, ev_astR, ev_upd, ev_updq, ev_updv, ev_ina, ev_inaq, ev_inav, ev_rzs, ev_rzsq, ev_rzsv, ev_sw, ev_swx, ev_swr, ev_agN, ev_agC, ev_agi, ev_agl, ev_agr, ev_ag2, ev_calX, ev_calv, ev_decI, ev_decL, ev_decR, ev_calS, ev_clsv, ev_clsd, ev_ck0, ev_ck1, ev_cs1, ev_ck2, ev_cs2, ev_ck3, ev_cs3, ev_ck4, ev_cs4, ev_ck5, ev_cs5, ev_finV, ev_finI, ev_finL, ev_finR, ev_fin1, ev_fin0, ev_finZ, ev_newO, ev_newv, ev_newR, ev_newA, ev_newAv, ev_oi, ev_oiv, Option.bind_some, Option.bind_none, Option.bind_fun_some, reduceCtorEq, reduceIte, List.take_zero, Sum.inl.injEq, Sum.inr.injEq, Option.some.injEq, Prod.mk.injEq, Nat.reduceEqDiff, Nat.reduceAdd, Nat.reduceSub, Nat.reduceMul, Nat.reduceLT, Nat.reduceLeDiff, decide_true, decide_false, decide_eq_true_eq, decide_eq_false_iff_not, Bool.and_true, Bool.true_and, Bool.and_false, Bool.false_and, Bool.false_or, Bool.or_false, Bool.true_or, Bool.or_true, Bool.and_self, Bool.or_self, true_or, or_true, and_true, true_and, false_and, and_false, false_or, or_false, not_true_eq_false, not_false_eq_true, Bool.not_true, Bool.not_false, Bool.false_eq_true, and_self, ite_true, ite_false, eq_self, hT_sR, hP_sR, hI_sR, hL_sR, hN_sR, hR_sRu, hT_sI, hP_sI, hR_sI, hL_sI, hN_sI, hI_sI, hT_sL, hP_sL, hR_sL, hI_sL, hN_sL, hL_sL, hT_sP, hR_sP, hI_sP, hL_sP, hN_sP, hP_sP, u1_app, u2_app, hT_sA, hP_sA, hR_sA, hL_sA, hN_sA, hI_sA, sI_sA, sI_sI, sA_sA, sA_sI, hT_sLA, hP_sLA, hR_sLA, hI_sLA, hN_sLA, hL_sLA, sL_sLA, eX12_lays, bX12_lays, gT95 g, gT96 g, gT97 g, gT98 g, gT99 g, gT100 g, gT101 g, gT102 g, gT103 g, gT104 g, gT105 g, gT106 g, gT107 g, gT108 g, gT109 g, gT110 g, gT111 g, gT112 g, gT113 g, gT114 g, gT115 g, gT116 g, gT117 g, gT118 g, gT119 g, gT120 g, gT121 g, gT122 g, gT123 g, gT124 g, gT125 g, gT126 g, gT127 g, gT128 g, gT129 g, gT130 g, gT131 g, gT132 g, gT133 g, gT134 g, gT135 g, gT136 g, gP95_0 g, gP95_14 g, gP95_15 g, gP95_16 g, gP95_17 g, gP95_18 g, gP95_22 g, gP95_23 g, gP95_24 g, gP95_25 g, gP95_26 g, gP95_29 g, gP95_33 g, gP95_34 g, gP95_35 g, gP95_36 g, gP95_38 g, gP95_41 g, gP95_42 g, gP95_43 g, gP95_44 g, gP95_45 g, gP95_46 g, gP95_47 g, gP95_48 g, gP95_49 g, gP95_50 g, gP95_52 g, gP95_54 g, gP95_55 g, gP95_56 g, gP95_57 g, gP95_58 g, gP95_60 g, gP95_61 g, gP95_62 g, gP95_63 g, gP95_64 g, gP95_66 g, gP95_67 g, gP95_68 g, gT95 g1, gT96 g1, gT97 g1, gT98 g1, gT99 g1, gT100 g1, gT101 g1, gT102 g1, gT103 g1, gT104 g1, gT105 g1, gT106 g1, gT107 g1, gT108 g1, gT109 g1, gT110 g1, gT111 g1, gT112 g1, gT113 g1, gT114 g1, gT115 g1, gT116 g1, gT117 g1, gT118 g1, gT119 g1, gT120 g1, gT121 g1, gT122 g1, gT123 g1, gT124 g1, gT125 g1, gT126 g1, gT127 g1, gT128 g1, gT129 g1, gT130 g1, gT131 g1, gT132 g1, gT133 g1, gT134 g1, gT135 g1, gT136 g1, gP95_0 g1, gP95_14 g1, gP95_15 g1, gP95_16 g1, gP95_17 g1, gP95_18 g1, gP95_22 g1, gP95_23 g1, gP95_24 g1, gP95_25 g1, gP95_26 g1, gP95_29 g1, gP95_33 g1, gP95_34 g1, gP95_35 g1, gP95_36 g1, gP95_38 g1, gP95_41 g1, gP95_42 g1, gP95_43 g1, gP95_44 g1, gP95_45 g1, gP95_46 g1, gP95_47 g1, gP95_48 g1, gP95_49 g1, gP95_50 g1, gP95_52 g1, gP95_54 g1, gP95_55 g1, gP95_56 g1, gP95_57 g1, gP95_58 g1, gP95_60 g1, gP95_61 g1, gP95_62 g1, gP95_63 g1, gP95_64 g1, gP95_66 g1, gP95_67 g1, gP95_68 g1, gT95 g2, gT96 g2, gT97 g2, gT98 g2, gT99 g2, gT100 g2, gT101 g2, gT102 g2, gT103 g2, gT104 g2, gT105 g2, gT106 g2, gT107 g2, gT108 g2, gT109 g2, gT110 g2, gT111 g2, gT112 g2, gT113 g2, gT114 g2, gT115 g2, gT116 g2, gT117 g2, gT118 g2, gT119 g2, gT120 g2, gT121 g2, gT122 g2, gT123 g2, gT124 g2, gT125 g2, gT126 g2, gT127 g2, gT128 g2, gT129 g2, gT130 g2, gT131 g2, gT132 g2, gT133 g2, gT134 g2, gT135 g2, gT136 g2, gP95_0 g2, gP95_14 g2, gP95_15 g2, gP95_16 g2, gP95_17 g2, gP95_18 g2, gP95_22 g2, gP95_23 g2, gP95_24 g2, gP95_25 g2, gP95_26 g2, gP95_29 g2, gP95_33 g2, gP95_34 g2, gP95_35 g2, gP95_36 g2, gP95_38 g2, gP95_41 g2, gP95_42 g2, gP95_43 g2, gP95_44 g2, gP95_45 g2, gP95_46 g2, gP95_47 g2, gP95_48 g2, gP95_49 g2, gP95_50 g2, gP95_52 g2, gP95_54 g2, gP95_55 g2, gP95_56 g2, gP95_57 g2, gP95_58 g2, gP95_60 g2, gP95_61 g2, gP95_62 g2, gP95_63 g2, gP95_64 g2, gP95_66 g2, gP95_67 g2, gP95_68 g2, gT95 g3, gT96 g3, gT97 g3, gT98 g3, gT99 g3, gT100 g3, gT101 g3, gT102 g3, gT103 g3, gT104 g3, gT105 g3, gT106 g3, gT107 g3, gT108 g3, gT109 g3, gT110 g3, gT111 g3, gT112 g3, gT113 g3, gT114 g3, gT115 g3, gT116 g3, gT117 g3, gT118 g3, gT119 g3, gT120 g3, gT121 g3, gT122 g3, gT123 g3, gT124 g3, gT125 g3, gT126 g3, gT127 g3, gT128 g3, gT129 g3, gT130 g3, gT131 g3, gT132 g3, gT133 g3, gT134 g3, gT135 g3, gT136 g3, gP95_0 g3, gP95_14 g3, gP95_15 g3, gP95_16 g3, gP95_17 g3, gP95_18 g3, gP95_22 g3, gP95_23 g3, gP95_24 g3, gP95_25 g3, gP95_26 g3, gP95_29 g3, gP95_33 g3, gP95_34 g3, gP95_35 g3, gP95_36 g3, gP95_38 g3, gP95_41 g3, gP95_42 g3, gP95_43 g3, gP95_44 g3, gP95_45 g3, gP95_46 g3, gP95_47 g3, gP95_48 g3, gP95_49 g3, gP95_50 g3, gP95_52 g3, gP95_54 g3, gP95_55 g3, gP95_56 g3, gP95_57 g3, gP95_58 g3, gP95_60 g3, gP95_61 g3, gP95_62 g3, gP95_63 g3, gP95_64 g3, gP95_66 g3, gP95_67 g3, gP95_68 g3, gT95 g4, gT96 g4, gT97 g4, gT98 g4, gT99 g4, gT100 g4, gT101 g4, gT102 g4, gT103 g4, gT104 g4, gT105 g4, gT106 g4, gT107 g4, gT108 g4, gT109 g4, gT110 g4, gT111 g4, gT112 g4, gT113 g4, gT114 g4, gT115 g4, gT116 g4, gT117 g4, gT118 g4, gT119 g4, gT120 g4, gT121 g4, gT122 g4, gT123 g4, gT124 g4, gT125 g4, gT126 g4, gT127 g4, gT128 g4, gT129 g4, gT130 g4, gT131 g4, gT132 g4, gT133 g4, gT134 g4, gT135 g4, gT136 g4, gP95_0 g4, gP95_14 g4, gP95_15 g4, gP95_16 g4, gP95_17 g4, gP95_18 g4, gP95_22 g4, gP95_23 g4, gP95_24 g4, gP95_25 g4, gP95_26 g4, gP95_29 g4, gP95_33 g4, gP95_34 g4, gP95_35 g4, gP95_36 g4, gP95_38 g4, gP95_41 g4, gP95_42 g4, gP95_43 g4, gP95_44 g4, gP95_45 g4, gP95_46 g4, gP95_47 g4, gP95_48 g4, gP95_49 g4, gP95_50 g4, gP95_52 g4, gP95_54 g4, gP95_55 g4, gP95_56 g4, gP95_57 g4, gP95_58 g4, gP95_60 g4, gP95_61 g4, gP95_62 g4, gP95_63 g4, gP95_64 g4, gP95_66 g4, gP95_67 g4, gP95_68 g4, iI_lt2, iI_le2, iI_eq2, iI_lt0, iI_0lt, iI_le0, iI_0le, iI_eq0, iI_eq1, iI_nat2, iI_add, iI_sub, iI_mul, Int.toNat_natCast, if_pos, if_neg, d5, d6, e0, k0, eb, dp, i1, ey, k2, q1, q2, q3, q4, e1, e2, e3', e4, e5, a1, a2, z10, show (5:Int).toNat = 5 from rfl, show (6:Int).toNat = 6 from rfl]
    · rw [if_neg (by rintro (z | z) <;> contradiction)]
      obtain ⟨h1, e1, p1, m1, L1⟩ := m_lput (k := c + 4) g (11098 + p) (iI ((Lb.2.2.length : Nat) : Int)) (by omega) L
      have g1 := p1.1.gr g
      have q1 : (((kX K).dropLast.length : Nat) : Int) + 1 = (((kX K).dropLast.length + 1 : Nat) : Int) := by omega
      obtain ⟨h2, e2, p2, m2, L2⟩ := m_lput (k := c + 3) g1 (798 + p) (iI (((kX K).dropLast.length + 1 : Nat) : Int)) (by omega) L1
      have pp : PutR 2 h h2 := p1.tr p2
      refine ⟨h2, ?_, pp.mono (Nat.le_add_right _ _), ?_, L2.mono (by omega), fun x x1 x2 => by rw [m2, u1_ne (by omega), m1, u1_ne (by omega)]⟩
      · simp -implicitDefEqProofs (disch := omega) only [bind_ite, ev_itea, ev_seq, ev_seq0, ev_seq1, ev_seq2, ev_seqr, ev_if, ev_ift, ev_iff, ev_ifd, ev_ife, ev_ifet, ev_ifef, ev_ifed, ev_skip, ev_cont, ev_brk, ev_retV, ev_retI, ev_retIv, ev_retL, ev_retLv, ev_retR, ev_retRv, ev_for, ev_for0, ev_for2, ev_for1, ev_forr, ev_sc, ev_scv, ev_ex, ev_exv, ev_lsI, ev_lsIv, ev_lsL, ev_lsLv, ev_lsR, ev_lsRv, ev_ciI, ev_clL, ev_lvI0, ev_lvL0, ev_lvR0, ev_inc0, ev_s1_0, ev_s2_0, ev_lvI1, ev_lvL1, ev_lvR1, ev_inc1, ev_s1_1i, ev_s2_1i, ev_s1_1r, ev_s2_1r, ev_s1_1u, ev_s2_1u, ev_s1_1s, ev_s2_1s, ev_lvI2, ev_lvL2, ev_lvR2, ev_inc2, ev_s1_2i, ev_s2_2i, ev_s1_2r, ev_s2_2r, ev_s1_2u, ev_s2_2u, ev_s1_2s, ev_s2_2s, ev_lvI3, ev_lvL3, ev_lvR3, ev_inc3, ev_s1_3i, ev_s2_3i, ev_s1_3r, ev_s2_3r, ev_s1_3u, ev_s2_3u, ev_s1_3s, ev_s2_3s, ev_lvI4, ev_lvL4, ev_lvR4, ev_inc4, ev_s1_4i, ev_s2_4i, ev_s1_4r, ev_s2_4r, ev_s1_4u, ev_s2_4u, ev_s1_4s, ev_s2_4s, ev_lvI5, ev_lvL5, ev_lvR5, ev_inc5, ev_s1_5i, ev_s2_5i, ev_s1_5r, ev_s2_5r, ev_s1_5u, ev_s2_5u, ev_s1_5s, ev_s2_5s, ev_lvI6, ev_lvL6, ev_lvR6, ev_inc6, ev_s1_6i, ev_s2_6i, ev_s1_6r, ev_s2_6r, ev_s1_6u, ev_s2_6u, ev_s1_6s, ev_s2_6s, ev_lvI7, ev_lvL7, ev_lvR7, ev_inc7, ev_s1_7i, ev_s2_7i, ev_s1_7r, ev_s2_7r, ev_s1_7u, ev_s2_7u, ev_s1_7s, ev_s2_7s, ev_lvI8, ev_lvL8, ev_lvR8, ev_inc8, ev_s1_8i, ev_s2_8i, ev_s1_8r, ev_s2_8r, ev_s1_8u, ev_s2_8u, ev_s1_8s, ev_s2_8s, ev_lvI9, ev_lvL9, ev_lvR9, ev_inc9, ev_s1_9i, ev_s2_9i, ev_s1_9r, ev_s2_9r, ev_s1_9u, ev_s2_9u, ev_s1_9s, ev_s2_9s, ev_lvI10, ev_lvL10, ev_lvR10, ev_inc10, ev_s1_10i, ev_s2_10i, ev_s1_10r, ev_s2_10r, ev_s1_10u, ev_s2_10u, ev_s1_10s, ev_s2_10s, ev_lvI11, ev_lvL11, ev_lvR11, ev_inc11, ev_s1_11i, ev_s2_11i, ev_s1_11r, ev_s2_11r, ev_s1_11u, ev_s2_11u, ev_s1_11s, ev_s2_11s, ev_lvI12, ev_lvL12, ev_lvR12, ev_inc12, ev_s1_12i, ev_s2_12i, ev_s1_12r, ev_s2_12r, ev_s1_12u, ev_s2_12u, ev_s1_12s, ev_s2_12s, ev_lvI13, ev_lvL13, ev_lvR13, ev_inc13, ev_s1_13i, ev_s2_13i, ev_s1_13r, ev_s2_13r, ev_s1_13u, ev_s2_13u, ev_s1_13s, ev_s2_13s, ev_cut1_0, ev_cut1_1, ev_cut2_0, ev_cut2_1, ev_cut2_2, ev_cut3_0, ev_cut3_1, ev_cut3_2, ev_cut3_3, ev_cut4_0, ev_cut4_1, ev_cut4_2, ev_cut4_3, ev_cut4_4, ev_cut5_0, ev_cut5_1, ev_cut5_2, ev_cut5_3, ev_cut5_4, ev_cut5_5, ev_cut6_0, ev_cut6_1, ev_cut6_2, ev_cut6_3, ev_cut6_4, ev_cut6_5, ev_cut6_6, ev_cut7_0, ev_cut7_1, ev_cut7_2, ev_cut7_3, ev_cut7_4, ev_cut7_5, ev_cut7_6, ev_cut7_7, ev_cut8_0, ev_cut8_1, ev_cut8_2, ev_cut8_3, ev_cut8_4, ev_cut8_5, ev_cut8_6, ev_cut8_7, ev_cut8_8, ev_cut9_0, ev_cut9_1, ev_cut9_2, ev_cut9_3, ev_cut9_4, ev_cut9_5, ev_cut9_6, ev_cut9_7, ev_cut9_8, ev_cut9_9, ev_cut10_0, ev_cut10_1, ev_cut10_2, ev_cut10_3, ev_cut10_4, ev_cut10_5, ev_cut10_6, ev_cut10_7, ev_cut10_8, ev_cut10_9, ev_cut10_10, ev_cut11_0, ev_cut11_1, ev_cut11_2, ev_cut11_3, ev_cut11_4, ev_cut11_5, ev_cut11_6, ev_cut11_7, ev_cut11_8, ev_cut11_9, ev_cut11_10, ev_cut11_11, ev_cut12_0, ev_cut12_1, ev_cut12_2, ev_cut12_3, ev_cut12_4, ev_cut12_5, ev_cut12_6, ev_cut12_7, ev_cut12_8, ev_cut12_9, ev_cut12_10, ev_cut12_11, ev_cut12_12, ev_cut13_0, ev_cut13_1, ev_cut13_2, ev_cut13_3, ev_cut13_4, ev_cut13_5, ev_cut13_6, ev_cut13_7, ev_cut13_8, ev_cut13_9, ev_cut13_10, ev_cut13_11, ev_cut13_12, ev_cut13_13, ev_bin, ev_addI, ev_addIv, ev_subI, ev_subIv, ev_mulI, ev_mulIv, ev_andI, ev_andIv, ev_orI, ev_orIv, ev_xorI, ev_xorIv, ev_shlI, ev_shlIv, ev_shrI, ev_shrIv, ev_ushrI, ev_ushrIv, ev_addL, ev_addLv, ev_subL, ev_subLv, ev_mulL, ev_mulLv, ev_andL, ev_andLv, ev_orL, ev_orLv, ev_shlL, ev_shlLv, ev_divI, ev_divIv, ev_remI, ev_remIv, ev_divL, ev_divLv, ev_remL, ev_remLv, ev_eqI, ev_eqIv, ev_eqL, ev_eqLv, ev_eq0, ev_eq0v, ev_neI, ev_neIv, ev_neL, ev_neLv, ev_ne0, ev_ne0v, ev_ltI, ev_ltIv, ev_ltL, ev_ltLv, ev_lt0, ev_lt0v, ev_geI, ev_geIv, ev_geL, ev_geLv, ev_ge0, ev_ge0v, ev_gtI, ev_gtIv, ev_gtL, ev_gtLv, ev_gt0, ev_gt0v, ev_leI, ev_leIv, ev_leL, ev_leLv, ev_le0, ev_le0v, ev_i2L, ev_i2Lv, ev_l2I, ev_l2Iv, ev_nul, ev_nuls, ev_nuln, ev_andX, ev_andXt, ev_andXf, ev_andXd, ev_orX, ev_orXt, ev_orXf, ev_orXd, ev_notX, ev_notXv, ev_notd, ev_iteX, ev_iteXt, ev_iteXf, ev_iteXd, ev_getI, ev_getIv, ev_getL, ev_getLv, ev_getR, ev_getRv, ev_rsz, ev_rszv, ev_aldI, ev_aldIq, ev_aldIv, ev_aldL, ev_aldLq, ev_aldLv, ev_aldR, ev_aldRq, ev_aldRv, ev_aln, ev_putI, ev_putIq, ev_putIv, ev_putZ, ev_putZq, ev_putZv, ev_putL, ev_putLq, ev_putLv, ev_putR, ev_putRq, ev_putRv, ev_astI, ev_astIq, ev_astIi, ev_astIv, ev_astZ, ev_astZq, ev_astZi, ev_astZv, ev_astL, ev_astLq, ev_astLi, ev_astLv, ev_astR, ev_upd, ev_updq, ev_updv, ev_ina, ev_inaq, ev_inav, ev_rzs, ev_rzsq, ev_rzsv, ev_sw, ev_swx, ev_swr, ev_agN, ev_agC, ev_agi, ev_agl, ev_agr, ev_ag2, ev_calX, ev_calv, ev_decI, ev_decL, ev_decR, ev_calS, ev_clsv, ev_clsd, ev_ck0, ev_ck1, ev_cs1, ev_ck2, ev_cs2, ev_ck3, ev_cs3, ev_ck4, ev_cs4, ev_ck5, ev_cs5, ev_finV, ev_finI, ev_finL, ev_finR, ev_fin1, ev_fin0, ev_finZ, ev_newO, ev_newv, ev_newR, ev_newA, ev_newAv, ev_oi, ev_oiv, Option.bind_some, Option.bind_none, Option.bind_fun_some, reduceCtorEq, reduceIte, List.take_zero, Sum.inl.injEq, Sum.inr.injEq, Option.some.injEq, Prod.mk.injEq, Nat.reduceEqDiff, Nat.reduceAdd, Nat.reduceSub, Nat.reduceMul, Nat.reduceLT, Nat.reduceLeDiff, decide_true, decide_false, decide_eq_true_eq, decide_eq_false_iff_not, Bool.and_true, Bool.true_and, Bool.and_false, Bool.false_and, Bool.false_or, Bool.or_false, Bool.true_or, Bool.or_true, Bool.and_self, Bool.or_self, true_or, or_true, and_true, true_and, false_and, and_false, false_or, or_false, not_true_eq_false, not_false_eq_true, Bool.not_true, Bool.not_false, Bool.false_eq_true, and_self, ite_true, ite_false, eq_self, hT_sR, hP_sR, hI_sR, hL_sR, hN_sR, hR_sRu, hT_sI, hP_sI, hR_sI, hL_sI, hN_sI, hI_sI, hT_sL, hP_sL, hR_sL, hI_sL, hN_sL, hL_sL, hT_sP, hR_sP, hI_sP, hL_sP, hN_sP, hP_sP, u1_app, u2_app, hT_sA, hP_sA, hR_sA, hL_sA, hN_sA, hI_sA, sI_sA, sI_sI, sA_sA, sA_sI, hT_sLA, hP_sLA, hR_sLA, hI_sLA, hN_sLA, hL_sLA, sL_sLA, eX12_lays, bX12_lays, gT95 g, gT96 g, gT97 g, gT98 g, gT99 g, gT100 g, gT101 g, gT102 g, gT103 g, gT104 g, gT105 g, gT106 g, gT107 g, gT108 g, gT109 g, gT110 g, gT111 g, gT112 g, gT113 g, gT114 g, gT115 g, gT116 g, gT117 g, gT118 g, gT119 g, gT120 g, gT121 g, gT122 g, gT123 g, gT124 g, gT125 g, gT126 g, gT127 g, gT128 g, gT129 g, gT130 g, gT131 g, gT132 g, gT133 g, gT134 g, gT135 g, gT136 g, gP95_0 g, gP95_14 g, gP95_15 g, gP95_16 g, gP95_17 g, gP95_18 g, gP95_22 g, gP95_23 g, gP95_24 g, gP95_25 g, gP95_26 g, gP95_29 g, gP95_33 g, gP95_34 g, gP95_35 g, gP95_36 g, gP95_38 g, gP95_41 g, gP95_42 g, gP95_43 g, gP95_44 g, gP95_45 g, gP95_46 g, gP95_47 g, gP95_48 g, gP95_49 g, gP95_50 g, gP95_52 g, gP95_54 g, gP95_55 g, gP95_56 g, gP95_57 g, gP95_58 g, gP95_60 g, gP95_61 g, gP95_62 g, gP95_63 g, gP95_64 g, gP95_66 g, gP95_67 g, gP95_68 g, gT95 g1, gT96 g1, gT97 g1, gT98 g1, gT99 g1, gT100 g1, gT101 g1, gT102 g1, gT103 g1, gT104 g1, gT105 g1, gT106 g1, gT107 g1, gT108 g1, gT109 g1, gT110 g1, gT111 g1, gT112 g1, gT113 g1, gT114 g1, gT115 g1, gT116 g1, gT117 g1, gT118 g1, gT119 g1, gT120 g1, gT121 g1, gT122 g1, gT123 g1, gT124 g1, gT125 g1, gT126 g1, gT127 g1, gT128 g1, gT129 g1, gT130 g1, gT131 g1, gT132 g1, gT133 g1, gT134 g1, gT135 g1, gT136 g1, gP95_0 g1, gP95_14 g1, gP95_15 g1, gP95_16 g1, gP95_17 g1, gP95_18 g1, gP95_22 g1, gP95_23 g1, gP95_24 g1, gP95_25 g1, gP95_26 g1, gP95_29 g1, gP95_33 g1, gP95_34 g1, gP95_35 g1, gP95_36 g1, gP95_38 g1, gP95_41 g1, gP95_42 g1, gP95_43 g1, gP95_44 g1, gP95_45 g1, gP95_46 g1, gP95_47 g1, gP95_48 g1, gP95_49 g1, gP95_50 g1, gP95_52 g1, gP95_54 g1, gP95_55 g1, gP95_56 g1, gP95_57 g1, gP95_58 g1, gP95_60 g1, gP95_61 g1, gP95_62 g1, gP95_63 g1, gP95_64 g1, gP95_66 g1, gP95_67 g1, gP95_68 g1, iI_lt2, iI_le2, iI_eq2, iI_lt0, iI_0lt, iI_le0, iI_0le, iI_eq0, iI_eq1, iI_nat2, iI_add, iI_sub, iI_mul, Int.toNat_natCast, if_pos, if_neg, d5, e0, k0, eb, dp, i1, ey, k2, ep, e1, e2, a1, a2, q1, show (5:Int).toNat = 5 from rfl]
      · have M : hI h2 109 = u1 (u1 (hI h 109) (11098 + p) (iI ((Lb.2.2.length : Nat) : Int))) (798 + p) (iI (((kX K).dropLast.length + 1 : Nat) : Int)) := by rw [m2, m1]
        have hl8 := R.2.2.2.2.2.2.2.2.1 (kX K).dropLast.length (by omega)
        have e3 : (kX K).getD (kX K).dropLast.length (0, 0, []) = Lb := by
          conv => lhs; rw [hs]
          rw [List.getD_eq_getElem?_getD, List.getElem?_append_right (by simp)]
          simp
        rw [e3] at hl8
        have hs' : kX K = (kX K).dropLast ++ [(Lb.1, Lb.2.1, Lb.2.2)] := hs
        refine R.lay pp.1 hP (X0 := (kX K).dropLast) (d := Lb.1) (k := Lb.2.1) (l := Lb.2.2) (Or.inl hs') hnp hp ok.2.2.1 (by omega) ?_ ?_ ?_ ?_ ?_ ?_
        · rw [M, u1_ne (by omega), u1_ne (by omega), d5, hdl]
        · rw [M, u1_ne (by omega), u1_ne (by omega)]; exact hl8.1
        · rw [M, u1_ne (by omega), u1_ne (by omega)]; exact hl8.2.1
        · rw [M, u1_ne (by omega), u1_eq]
        · rw [M, u1_eq]
        · intro x q1 q2 q3 q4 q5
          rw [M, u1_ne q5, u1_ne q4]
theorem m_lays {h : AH} (g : Gr h) {bk : Nat} {nu : List Int} {ts : Nat → List (Int × Int)} {K : KT} (ok : KOw K) (R : KM h K) (Q : RuM h bk nu ts) (hnu : nuOk nu) (p : Nat) (hp : p < kP K) (hnp : p ∉ flat K) (hlen : (flat K).length < 300) {c : Nat} (L : Lc h (c + 5)) :
    ∃ h', mX12_lays [.ref 95, .int (iI (p : Int))] h = some (none, h') ∧ PutR 5 h h' ∧ KM h' (setX K (wrX K (nu.getD 0 0) (kD K) (kX K) p)) ∧ Lc h' c := by
  obtain ⟨h', e1, e2, e3, e4, -⟩ := m_lays2 g ok R Q hnu p hp hnp hlen L
  exact ⟨h', e1, e2.mono (by have := wrX_len K (nu.getD 0 0) (kD K) (kX K) p; omega), e3, e4⟩
