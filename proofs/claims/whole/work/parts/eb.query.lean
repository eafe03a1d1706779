/-! ===== L2: the calls that only ask (by mkeb.py) ===== -/
section
variable {h h1 h2 : AH} {r r' : Nat} {nu : List Int} {ts : Nat → List (Int × Int)} {idm : Nat → Nat} {K : KT} {cf : List (List Int)} {PF : List Int} {Ks : Nat → KT} {u m pn bk : Nat} {a : Nat → Nat} {M : Nat → Nat → Int32} {T G MT : List Int} {st : Bool} {x fk fp : Int}
def scQ (r : Nat) : List Nat := [25, 26, 47, 48, 60, 61, 62, 63, 64, 65, 66, 67, 68, 69, 70, 76, 77, 78, 81, 82, r + 4, r + 7, r + 10, r + 11]
theorem scQ_R (r : Nat) : ∀ q ∈ scQ r, q ∈ scR r := fun q hq => by
  unfold scQ at hq
  unfold scR
  simp only [List.mem_cons, List.not_mem_nil, or_false] at hq ⊢
  omega
theorem qry (C : CK h r r' nu ts idm K cf PF Ks u m pn) (L : CL h T G MT st x fk fp) (D : MK h bk nu ts K Ks u a M) (E : ML h T G MT st x fk fp) {S O : List Nat} (f : FrC S O h h1) (hS : ∀ q ∈ S, q ∈ scQ r) (hO : ∀ q ∈ O, q = 60) (R : RuC h1 r nu ts) : CK h1 r r' nu ts idm K cf PF Ks u m pn ∧ CL h1 T G MT st x fk fp ∧ MK h1 bk nu ts K Ks u a M ∧ ML h1 T G MT st x fk fp := by
  have A : AgRe h h1 := f.re (fun q hq => by rw [hO q hq]; decide)
  have rr : r = 12 ∨ r = 83 := C.1.2.1
  have n : ∀ q, q ∈ [1, 2, 80] → hR h1 q = hR h q := fun q hq => f.2.2.2.2.2 q (fun z => by
    have := hS q z
    unfold scQ at this
    simp only [List.mem_cons, List.not_mem_nil, or_false] at hq this
    omega)
  have i : ∀ q, q ≠ 60 → hI h1 q = hI h q := fun q hq => f.2.2.2.2.1 q (fun z => hq (hO q z))
  refine ⟨C.q f (fun q hq => scQ_R r q (hS q hq)) (fun q hq => by rw [hO q hq]; omega) (fun k _ => by rw [i 11 (by decide)]) R, ?_, D.re A, E.re A⟩
  unfold CL
  rw [n 1 (by decide), n 2 (by decide), n 80 (by decide), i 0 (by decide), i 11 (by decide)]
  exact L
theorem LogS.fr {S S5 : List Nat} (f : FrM S S5 h1 h2) (h0 : 110 ∉ S) (h1' : 111 ∉ S) : LogS h1 h2 := fun n _ _ j _ => by
  rw [f.2.2.2.2.1 110 h0 (by decide), f.2.2.2.2.1 111 h1' (by decide)]
  exact ⟨rfl, rfl⟩
theorem qry2 (C : CK h1 r r' nu ts idm K cf PF Ks u m pn) (L : CL h1 T G MT st x fk fp) (D : MK h1 bk nu ts K Ks u a M) (E : ML h1 T G MT st x fk fp) {S S5 : List Nat} (f : FrM S S5 h1 h2) (hS : ∀ q ∈ S, q ∈ [110, 111, 120, 121, 122, 123, 124, 125, 126, 127, 128, 129, 130, 131, 132, 133, 136]) (h5 : ∀ k ∈ S5, k ∈ [51, 53, 59]) (l : LogS h1 h2) : CK h2 r r' nu ts idm K cf PF Ks u m pn ∧ CL h2 T G MT st x fk fp ∧ MK h2 bk nu ts K Ks u a M ∧ ML h2 T G MT st x fk fp := by
  have rg : ∀ q ∈ S, 110 ≤ q ∧ q < 137 := fun q hq => by
    have := hS q hq
    simp only [List.mem_cons, List.not_mem_nil, or_false] at this
    omega
  have A : AgCl h1 h2 := f.cl (fun q hq => by have := rg q hq; omega)
  have e : ∀ q, q ≠ 95 → (q < 110 ∨ (112 ≤ q ∧ q < 120) ∨ q = 134 ∨ q = 135) → hI h2 q = hI h1 q := fun q h95 hq => f.2.2.2.2.1 q (fun z => by
    have := hS q z
    simp only [List.mem_cons, List.not_mem_nil, or_false] at this
    omega) h95
  have e5 : ∀ k, k ≠ 51 → k ≠ 53 → k ≠ 59 → hI h2 95 k = hI h1 95 k := fun k k1 k2 k3 => f.2.2.2.2.2.1 k (fun z => by
    have := h5 k z
    simp only [List.mem_cons, List.not_mem_nil, or_false] at this
    omega)
  refine ⟨C.m A, L.m A, D.q (fun q hq => e q ?_ ?_) ⟨e5 13 (by decide) (by decide) (by decide), e5 37 (by decide) (by decide) (by decide), e5 39 (by decide) (by decide) (by decide)⟩ l, ?_⟩
  · intro z; rw [z] at hq; exact absurd hq (by decide)
  · simp only [List.mem_cons, List.not_mem_nil, or_false] at hq
    omega
  · unfold ML TapeM RefM MetM
    rw [e 96 (by decide) (by decide), e 108 (by decide) (by decide), e 134 (by decide) (by decide), e 135 (by decide) (by decide), e5 1 (by decide) (by decide) (by decide), e5 65 (by decide) (by decide) (by decide), e5 32 (by decide) (by decide) (by decide), e5 10 (by decide) (by decide) (by decide), e5 11 (by decide) (by decide) (by decide), f.2.2.2.2.2.2 95 (fun z => by have := rg 95 z; omega)]
    exact E
theorem RuC.q (C : CK h r r' nu ts idm K cf PF Ks u m pn) {S O : List Nat} (f : FrC S O h h1) (hS : ∀ q ∈ S, q ∈ [25, 26, 47, 48, 76, 77, 78, 81, 82]) : RuC h1 r nu ts := by
  refine C.1.2.2.2.1.frC f ?_
  have rr : r = 12 ∨ r = 83 := C.1.2.1
  have k : ∀ q, q < 25 ∨ 82 < q → q ∉ S := fun q hq z => by
    have := hS q z
    simp only [List.mem_cons, List.not_mem_nil, or_false] at this
    omega
  exact ⟨k _ (by omega), k _ (by omega), k _ (by omega), k _ (by omega), k _ (by omega)⟩
theorem HiM.room {h : AH} {a : Nat → Nat} {M : Nat → Nat → Int32} {u : Nat} (H : HiM h a M u) : a u + 2401 ≤ 60000 := by
  have := H.le u (Nat.le_refl _)
  have := H.1
  omega
end
theorem Kx_last (Ks : Nat → KT) (K : KT) (u : Nat) : Kx Ks K u u = K := by unfold Kx; rw [if_neg (by omega)]
/-- cores in their order: each has what those before it had -/
theorem ChK.ex {Ks : Nat → KT} {K : KT} {u : Nat} (H : ChK Ks K u) (i : Nat) : ∀ k, i + k ≤ u → ExK (Kx Ks K u i) (Kx Ks K u (i + k)) ∧ (kK (Kx Ks K u (i + k))).length ≤ (kK (Kx Ks K u i)).length + k
  | 0, _ => ⟨ExK.rf _, Nat.le_refl _⟩
  | k + 1, h => by
    obtain ⟨e1, e2⟩ := ChK.ex H i k (by omega)
    obtain ⟨d1, d2⟩ := H (i + k) (by omega)
    exact ⟨e1.tr d1, by show (kK (Kx Ks K u (i + k + 1))).length ≤ _; omega⟩
theorem ChK.now {Ks : Nat → KT} {K : KT} {u : Nat} (H : ChK Ks K u) {i : Nat} (hi : i < u) : ExK (Ks i) K ∧ (kK K).length ≤ (kK (Ks i)).length + (u - i) := by
  have := H.ex i (u - i) (by omega)
  have e : i + (u - i) = u := by omega
  rw [e, Kx_last] at this
  have e2 : Kx Ks K u i = Ks i := by unfold Kx; rw [if_pos hi]
  rw [e2] at this
  exact this
theorem ExK.kl {a b : KT} (E : ExK a b) : (kK a).length ≤ (kK b).length := (pre_take E.2.2.2.2.1).2
theorem sv0_le {Ks : Nat → KT} {K : KT} {u : Nat} (H : ChK Ks K u) : sv0 Ks K u ≤ (kK K).length := by
  unfold sv0
  by_cases z : u = 0
  · rw [if_pos z]; exact Nat.le_refl _
  · rw [if_neg z]; exact (H.now (by omega)).1.kl
theorem S_fault {n : Nat} {h : AH} (I : Inv n h) (hn : n < 512) (a1 : Int32) : StpI n h mX11_fault mX12_fault [.int a1] := by
  obtain ⟨r, r', nu, ts, idm, K, cf, PF, Ks, u, m, pn, bk, a, M, T, G, MT, st, x, fk, fp, C, L, D, E, P⟩ := I
  obtain ⟨b1, rfl, hb1⟩ := iI_self a1
  have X := C.1
  have ok := X.2.2.2.2.2.1
  have na := P.1.at
  have t0 := P.2.1 0 (by decide)
  have t2 := P.2.1 2 (by decide)
  have G6 := P.2.2.2.2.2.2.2.2.2.1
  have mo := P.2.2.2.2.2.2.1
  have mo1 := mo.1
  have mo2 := mo.2.1
  have nb := P.2.2.2.2.2.2.2.2.2.2.2.2.2.2.2.2.2
  have room := D.2.2.1.room
  have hi14 : hI h 11 14 = iI (u : Int) := C.2.2.2.2.2.2.1.2.2.2.2.2.1
  have hsb : ∀ b, bF K b = true → st = true := fun b hb => by
    cases st with
    | true => rfl
    | false => rw [(P.2.2.2.2.2.1 rfl).2.1 b] at hb; cases hb
  have q1 := C_fault X.1 fk fp b1 hb1 L.2.2.2.2.1 L.2.2.2.2.2.1
  have f1 : FrC [] [] h h := FrC.rf _ _ h
  have R1 : RuC h r nu ts := X.2.2.2.1
  obtain ⟨C1, L1, D1, E1⟩ := qry C L D E f1 (by unfold scQ; simp) (by simp) R1
  have g1 := C1.1.1
  have t1 := M_fault g1 fk fp b1 hb1 E1.2.2.2.2.1 E1.2.2.2.2.2.1
  have f2 : FrM [] [] h h := FrM.rf _ _ h
  have l2 : LogS h h := LogS.rf h
  obtain ⟨C2, L2, D2, E2⟩ := qry2 C1 L1 D1 E1 f2 (by decide) (by decide) l2
  exact ⟨_, h, h, q1, t1, r, r', nu, ts, idm, K, cf, PF, Ks, u, m, pn, bk, a, M, T, G, MT, st, x, fk, fp, C2, L2, D2, E2, P.up⟩
theorem S_status {n : Nat} {h : AH} (I : Inv n h) (hn : n < 512) (a1 : Int32) : StpI n h mX11_status mX12_status [.int a1] := by
  obtain ⟨r, r', nu, ts, idm, K, cf, PF, Ks, u, m, pn, bk, a, M, T, G, MT, st, x, fk, fp, C, L, D, E, P⟩ := I
  obtain ⟨b1, rfl, hb1⟩ := iI_self a1
  have X := C.1
  have ok := X.2.2.2.2.2.1
  have na := P.1.at
  have t0 := P.2.1 0 (by decide)
  have t2 := P.2.1 2 (by decide)
  have G6 := P.2.2.2.2.2.2.2.2.2.1
  have mo := P.2.2.2.2.2.2.1
  have mo1 := mo.1
  have mo2 := mo.2.1
  have nb := P.2.2.2.2.2.2.2.2.2.2.2.2.2.2.2.2.2
  have room := D.2.2.1.room
  have hi14 : hI h 11 14 = iI (u : Int) := C.2.2.2.2.2.2.1.2.2.2.2.2.1
  have hsb : ∀ b, bF K b = true → st = true := fun b hb => by
    cases st with
    | true => rfl
    | false => rw [(P.2.2.2.2.2.1 rfl).2.1 b] at hb; cases hb
  have q1 := C_status X.1 G b1 hb1 L.2.1 G6
  have f1 : FrC [] [] h h := FrC.rf _ _ h
  have R1 : RuC h r nu ts := X.2.2.2.1
  obtain ⟨C1, L1, D1, E1⟩ := qry C L D E f1 (by unfold scQ; simp) (by simp) R1
  have g1 := C1.1.1
  have t1 := M_status g1 G b1 hb1 E1.2.1 G6
  have f2 : FrM [] [] h h := FrM.rf _ _ h
  have l2 : LogS h h := LogS.rf h
  obtain ⟨C2, L2, D2, E2⟩ := qry2 C1 L1 D1 E1 f2 (by decide) (by decide) l2
  exact ⟨_, h, h, q1, t1, r, r', nu, ts, idm, K, cf, PF, Ks, u, m, pn, bk, a, M, T, G, MT, st, x, fk, fp, C2, L2, D2, E2, P.up⟩
theorem S_has {n : Nat} {h : AH} (I : Inv n h) (hn : n < 512) (a1 : Int32) : StpI n h mX11_has mX12_has [.int a1] := by
  obtain ⟨r, r', nu, ts, idm, K, cf, PF, Ks, u, m, pn, bk, a, M, T, G, MT, st, x, fk, fp, C, L, D, E, P⟩ := I
  obtain ⟨b1, rfl, hb1⟩ := iI_self a1
  have X := C.1
  have ok := X.2.2.2.2.2.1
  have na := P.1.at
  have t0 := P.2.1 0 (by decide)
  have t2 := P.2.1 2 (by decide)
  have G6 := P.2.2.2.2.2.2.2.2.2.1
  have mo := P.2.2.2.2.2.2.1
  have mo1 := mo.1
  have mo2 := mo.2.1
  have nb := P.2.2.2.2.2.2.2.2.2.2.2.2.2.2.2.2.2
  have room := D.2.2.1.room
  have hi14 : hI h 11 14 = iI (u : Int) := C.2.2.2.2.2.2.1.2.2.2.2.2.1
  have hsb : ∀ b, bF K b = true → st = true := fun b hb => by
    cases st with
    | true => rfl
    | false => rw [(P.2.2.2.2.2.1 rfl).2.1 b] at hb; cases hb
  obtain ⟨h1, q1, f1⟩ := C_has X b1 hb1 (by omega) MT (MT.length / 2) L.2.2.1 (by omega) (by omega) (u : Int) x hi14 L.2.2.2.2.2.2
  have f1 := FrR.c (O := []) f1
  have R1 := RuC.q C f1 (by decide)
  obtain ⟨C1, L1, D1, E1⟩ := qry C L D E f1 (by unfold scQ; simp) (by simp) R1
  have g1 := C1.1.1
  obtain ⟨h2, t1, f2⟩ := M_has g1 ok D1.2.1 D1.1 b1 hb1 st E1.2.2.2.1 P.1.2.2.2 _ _ _ E1.2.2.1.1 D1.2.2.1.2.1 E1.2.2.2.2.2.2
  have l2 : LogS h1 h2 := LogS.fr f2 (by decide) (by decide)
  obtain ⟨C2, L2, D2, E2⟩ := qry2 C1 L1 D1 E1 f2 (by decide) (by decide) l2
  exact ⟨_, h1, h2, q1, t1, r, r', nu, ts, idm, K, cf, PF, Ks, u, m, pn, bk, a, M, T, G, MT, st, x, fk, fp, C2, L2, D2, E2, P.up⟩
theorem S_backup {n : Nat} {h : AH} (I : Inv n h) (hn : n < 512) (a1 a2 : Int32) : StpI n h mX11_backup mX12_backup [.int a1, .int a2] := by
  obtain ⟨r, r', nu, ts, idm, K, cf, PF, Ks, u, m, pn, bk, a, M, T, G, MT, st, x, fk, fp, C, L, D, E, P⟩ := I
  obtain ⟨b1, rfl, hb1⟩ := iI_self a1
  obtain ⟨b2, rfl, hb2⟩ := iI_self a2
  have X := C.1
  have ok := X.2.2.2.2.2.1
  have na := P.1.at
  have t0 := P.2.1 0 (by decide)
  have t2 := P.2.1 2 (by decide)
  have G6 := P.2.2.2.2.2.2.2.2.2.1
  have mo := P.2.2.2.2.2.2.1
  have mo1 := mo.1
  have mo2 := mo.2.1
  have nb := P.2.2.2.2.2.2.2.2.2.2.2.2.2.2.2.2.2
  have room := D.2.2.1.room
  have hi14 : hI h 11 14 = iI (u : Int) := C.2.2.2.2.2.2.1.2.2.2.2.2.1
  have hsb : ∀ b, bF K b = true → st = true := fun b hb => by
    cases st with
    | true => rfl
    | false => rw [(P.2.2.2.2.2.1 rfl).2.1 b] at hb; cases hb
  have q1 := C_backup X.1 ok X.2.2.2.2.2.2.1 X.2.2.2.2.2.2.2.1 X.2.2.2.2.2.2.2.2 b1 b2 hb1 hb2
  have f1 : FrC [] [] h h := FrC.rf _ _ h
  have R1 : RuC h r nu ts := X.2.2.2.1
  obtain ⟨C1, L1, D1, E1⟩ := qry C L D E f1 (by unfold scQ; simp) (by simp) R1
  have g1 := C1.1.1
  have t1 := M_backup g1 ok D1.2.1 b1 b2 hb1 hb2
  have f2 : FrM [] [] h h := FrM.rf _ _ h
  have l2 : LogS h h := LogS.rf h
  obtain ⟨C2, L2, D2, E2⟩ := qry2 C1 L1 D1 E1 f2 (by decide) (by decide) l2
  exact ⟨_, h, h, q1, t1, r, r', nu, ts, idm, K, cf, PF, Ks, u, m, pn, bk, a, M, T, G, MT, st, x, fk, fp, C2, L2, D2, E2, P.up⟩
theorem S_piece {n : Nat} {h : AH} (I : Inv n h) (hn : n < 512) (a1 a2 a3 : Int32) : StpI n h mX11_piece mX12_piece [.int a1, .int a2, .int a3] := by
  obtain ⟨r, r', nu, ts, idm, K, cf, PF, Ks, u, m, pn, bk, a, M, T, G, MT, st, x, fk, fp, C, L, D, E, P⟩ := I
  obtain ⟨b1, rfl, hb1⟩ := iI_self a1
  obtain ⟨b2, rfl, hb2⟩ := iI_self a2
  obtain ⟨b3, rfl, hb3⟩ := iI_self a3
  have X := C.1
  have ok := X.2.2.2.2.2.1
  have na := P.1.at
  have t0 := P.2.1 0 (by decide)
  have t2 := P.2.1 2 (by decide)
  have G6 := P.2.2.2.2.2.2.2.2.2.1
  have mo := P.2.2.2.2.2.2.1
  have mo1 := mo.1
  have mo2 := mo.2.1
  have nb := P.2.2.2.2.2.2.2.2.2.2.2.2.2.2.2.2.2
  have room := D.2.2.1.room
  have hi14 : hI h 11 14 = iI (u : Int) := C.2.2.2.2.2.2.1.2.2.2.2.2.1
  have hsb : ∀ b, bF K b = true → st = true := fun b hb => by
    cases st with
    | true => rfl
    | false => rw [(P.2.2.2.2.2.1 rfl).2.1 b] at hb; cases hb
  have q1 := C_piece X b1 b2 b3 hb1 hb2 hb3
  have f1 : FrC [] [] h h := FrC.rf _ _ h
  have R1 : RuC h r nu ts := X.2.2.2.1
  obtain ⟨C1, L1, D1, E1⟩ := qry C L D E f1 (by unfold scQ; simp) (by simp) R1
  have g1 := C1.1.1
  have t1 := M_piece g1 ok D1.2.1 b1 b2 b3 hb1 hb2 hb3
  have f2 : FrM [] [] h h := FrM.rf _ _ h
  have l2 : LogS h h := LogS.rf h
  obtain ⟨C2, L2, D2, E2⟩ := qry2 C1 L1 D1 E1 f2 (by decide) (by decide) l2
  exact ⟨_, h, h, q1, t1, r, r', nu, ts, idm, K, cf, PF, Ks, u, m, pn, bk, a, M, T, G, MT, st, x, fk, fp, C2, L2, D2, E2, P.up⟩
theorem S_box {n : Nat} {h : AH} (I : Inv n h) (hn : n < 512) (a1 a2 : Int32) : StpI n h mX11_box mX12_box [.int a1, .int a2] := by
  obtain ⟨r, r', nu, ts, idm, K, cf, PF, Ks, u, m, pn, bk, a, M, T, G, MT, st, x, fk, fp, C, L, D, E, P⟩ := I
  obtain ⟨b1, rfl, hb1⟩ := iI_self a1
  obtain ⟨b2, rfl, hb2⟩ := iI_self a2
  have X := C.1
  have ok := X.2.2.2.2.2.1
  have na := P.1.at
  have t0 := P.2.1 0 (by decide)
  have t2 := P.2.1 2 (by decide)
  have G6 := P.2.2.2.2.2.2.2.2.2.1
  have mo := P.2.2.2.2.2.2.1
  have mo1 := mo.1
  have mo2 := mo.2.1
  have nb := P.2.2.2.2.2.2.2.2.2.2.2.2.2.2.2.2.2
  have room := D.2.2.1.room
  have hi14 : hI h 11 14 = iI (u : Int) := C.2.2.2.2.2.2.1.2.2.2.2.2.1
  have hsb : ∀ b, bF K b = true → st = true := fun b hb => by
    cases st with
    | true => rfl
    | false => rw [(P.2.2.2.2.2.1 rfl).2.1 b] at hb; cases hb
  obtain ⟨h1, q1, f1, R1⟩ := C_box X t2 b1 b2 hb1 hb2
  have f1 := FrR.c (O := []) f1
  obtain ⟨C1, L1, D1, E1⟩ := qry C L D E f1 (by unfold scQ; simp) (by simp) R1
  have g1 := C1.1.1
  obtain ⟨h2, t1, f2⟩ := M_box g1 ok D1.2.1 D1.1 t2 b1 b2 hb1 hb2
  have l2 : LogS h1 h2 := LogS.fr f2 (by decide) (by decide)
  obtain ⟨C2, L2, D2, E2⟩ := qry2 C1 L1 D1 E1 f2 (by decide) (by decide) l2
  exact ⟨_, h1, h2, q1, t1, r, r', nu, ts, idm, K, cf, PF, Ks, u, m, pn, bk, a, M, T, G, MT, st, x, fk, fp, C2, L2, D2, E2, P.up⟩
theorem S_octet {n : Nat} {h : AH} (I : Inv n h) (hn : n < 512) (a1 a2 : Int32) : StpI n h mX11_octet mX12_octet [.int a1, .int a2] := by
  obtain ⟨r, r', nu, ts, idm, K, cf, PF, Ks, u, m, pn, bk, a, M, T, G, MT, st, x, fk, fp, C, L, D, E, P⟩ := I
  obtain ⟨b1, rfl, hb1⟩ := iI_self a1
  obtain ⟨b2, rfl, hb2⟩ := iI_self a2
  have X := C.1
  have ok := X.2.2.2.2.2.1
  have na := P.1.at
  have t0 := P.2.1 0 (by decide)
  have t2 := P.2.1 2 (by decide)
  have G6 := P.2.2.2.2.2.2.2.2.2.1
  have mo := P.2.2.2.2.2.2.1
  have mo1 := mo.1
  have mo2 := mo.2.1
  have nb := P.2.2.2.2.2.2.2.2.2.2.2.2.2.2.2.2.2
  have room := D.2.2.1.room
  have hi14 : hI h 11 14 = iI (u : Int) := C.2.2.2.2.2.2.1.2.2.2.2.2.1
  have hsb : ∀ b, bF K b = true → st = true := fun b hb => by
    cases st with
    | true => rfl
    | false => rw [(P.2.2.2.2.2.1 rfl).2.1 b] at hb; cases hb
  obtain ⟨h1, q1, f1⟩ := C_octet X b1 b2 hb1 hb2
  have f1 := FrR.c (O := []) f1
  have R1 := RuC.q C f1 (by decide)
  obtain ⟨C1, L1, D1, E1⟩ := qry C L D E f1 (by unfold scQ; simp) (by simp) R1
  have g1 := C1.1.1
  obtain ⟨h2, t1, f2⟩ := M_octet g1 ok D1.2.1 b1 b2 hb1 hb2
  have l2 : LogS h1 h2 := LogS.fr f2 (by decide) (by decide)
  obtain ⟨C2, L2, D2, E2⟩ := qry2 C1 L1 D1 E1 f2 (by decide) (by decide) l2
  exact ⟨_, h1, h2, q1, t1, r, r', nu, ts, idm, K, cf, PF, Ks, u, m, pn, bk, a, M, T, G, MT, st, x, fk, fp, C2, L2, D2, E2, P.up⟩
theorem S_shared {n : Nat} {h : AH} (I : Inv n h) (hn : n < 512) (a1 a2 : Int32) : StpI n h mX11_shared mX12_shared [.int a1, .int a2] := by
  obtain ⟨r, r', nu, ts, idm, K, cf, PF, Ks, u, m, pn, bk, a, M, T, G, MT, st, x, fk, fp, C, L, D, E, P⟩ := I
  obtain ⟨b1, rfl, hb1⟩ := iI_self a1
  obtain ⟨b2, rfl, hb2⟩ := iI_self a2
  have X := C.1
  have ok := X.2.2.2.2.2.1
  have na := P.1.at
  have t0 := P.2.1 0 (by decide)
  have t2 := P.2.1 2 (by decide)
  have G6 := P.2.2.2.2.2.2.2.2.2.1
  have mo := P.2.2.2.2.2.2.1
  have mo1 := mo.1
  have mo2 := mo.2.1
  have nb := P.2.2.2.2.2.2.2.2.2.2.2.2.2.2.2.2.2
  have room := D.2.2.1.room
  have hi14 : hI h 11 14 = iI (u : Int) := C.2.2.2.2.2.2.1.2.2.2.2.2.1
  have hsb : ∀ b, bF K b = true → st = true := fun b hb => by
    cases st with
    | true => rfl
    | false => rw [(P.2.2.2.2.2.1 rfl).2.1 b] at hb; cases hb
  obtain ⟨h1, q1, f1⟩ := C_shared X b1 b2 hb1 hb2
  have f1 := FrR.c (O := []) f1
  have R1 := RuC.q C f1 (by decide)
  obtain ⟨C1, L1, D1, E1⟩ := qry C L D E f1 (by unfold scQ; simp) (by simp) R1
  have g1 := C1.1.1
  have t1 := M_shared g1 ok D1.2.1 b1 b2 hb1 hb2
  have f2 : FrM [] [] h1 h1 := FrM.rf _ _ h1
  have l2 : LogS h1 h1 := LogS.rf h1
  obtain ⟨C2, L2, D2, E2⟩ := qry2 C1 L1 D1 E1 f2 (by decide) (by decide) l2
  exact ⟨_, h1, h1, q1, t1, r, r', nu, ts, idm, K, cf, PF, Ks, u, m, pn, bk, a, M, T, G, MT, st, x, fk, fp, C2, L2, D2, E2, P.up⟩
theorem S_edit {n : Nat} {h : AH} (I : Inv n h) (hn : n < 512) (a1 a2 a3 : Int32) : StpI n h mX11_edit mX12_edit [.int a1, .int a2, .int a3] := by
  obtain ⟨r, r', nu, ts, idm, K, cf, PF, Ks, u, m, pn, bk, a, M, T, G, MT, st, x, fk, fp, C, L, D, E, P⟩ := I
  obtain ⟨b1, rfl, hb1⟩ := iI_self a1
  obtain ⟨b2, rfl, hb2⟩ := iI_self a2
  obtain ⟨b3, rfl, hb3⟩ := iI_self a3
  have X := C.1
  have ok := X.2.2.2.2.2.1
  have na := P.1.at
  have t0 := P.2.1 0 (by decide)
  have t2 := P.2.1 2 (by decide)
  have G6 := P.2.2.2.2.2.2.2.2.2.1
  have mo := P.2.2.2.2.2.2.1
  have mo1 := mo.1
  have mo2 := mo.2.1
  have nb := P.2.2.2.2.2.2.2.2.2.2.2.2.2.2.2.2.2
  have room := D.2.2.1.room
  have hi14 : hI h 11 14 = iI (u : Int) := C.2.2.2.2.2.2.1.2.2.2.2.2.1
  have hsb : ∀ b, bF K b = true → st = true := fun b hb => by
    cases st with
    | true => rfl
    | false => rw [(P.2.2.2.2.2.1 rfl).2.1 b] at hb; cases hb
  obtain ⟨h1, q1, f1, R1⟩ := C_edit X C.2.2.2.2.1 C.2.2.2.2.2.1 t0 na.1.2 b1 b2 b3 hb1 hb2 hb3
  have f1 := FrR.c (O := []) f1
  obtain ⟨C1, L1, D1, E1⟩ := qry C L D E f1 (by unfold scQ; simp) (by simp) R1
  have g1 := C1.1.1
  obtain ⟨h2, t1, f2⟩ := M_edit g1 ok D1.2.1 D1.1 P.1.ok t0 na.1.2 b1 b2 b3 hb1 hb2 hb3
  have l2 : LogS h1 h2 := LogS.fr f2 (by decide) (by decide)
  obtain ⟨C2, L2, D2, E2⟩ := qry2 C1 L1 D1 E1 f2 (by decide) (by decide) l2
  exact ⟨_, h1, h2, q1, t1, r, r', nu, ts, idm, K, cf, PF, Ks, u, m, pn, bk, a, M, T, G, MT, st, x, fk, fp, C2, L2, D2, E2, P.up⟩
theorem S_why {n : Nat} {h : AH} (I : Inv n h) (hn : n < 512) (a1 a2 : Int32) : StpI n h mX11_why mX12_why [.int a1, .int a2] := by
  obtain ⟨r, r', nu, ts, idm, K, cf, PF, Ks, u, m, pn, bk, a, M, T, G, MT, st, x, fk, fp, C, L, D, E, P⟩ := I
  obtain ⟨b1, rfl, hb1⟩ := iI_self a1
  obtain ⟨b2, rfl, hb2⟩ := iI_self a2
  have X := C.1
  have ok := X.2.2.2.2.2.1
  have na := P.1.at
  have t0 := P.2.1 0 (by decide)
  have t2 := P.2.1 2 (by decide)
  have G6 := P.2.2.2.2.2.2.2.2.2.1
  have mo := P.2.2.2.2.2.2.1
  have mo1 := mo.1
  have mo2 := mo.2.1
  have nb := P.2.2.2.2.2.2.2.2.2.2.2.2.2.2.2.2.2
  have room := D.2.2.1.room
  have hi14 : hI h 11 14 = iI (u : Int) := C.2.2.2.2.2.2.1.2.2.2.2.2.1
  have hsb : ∀ b, bF K b = true → st = true := fun b hb => by
    cases st with
    | true => rfl
    | false => rw [(P.2.2.2.2.2.1 rfl).2.1 b] at hb; cases hb
  have q1 := C_why X b1 b2 hb1 hb2
  have f1 : FrC [] [] h h := FrC.rf _ _ h
  have R1 : RuC h r nu ts := X.2.2.2.1
  obtain ⟨C1, L1, D1, E1⟩ := qry C L D E f1 (by unfold scQ; simp) (by simp) R1
  have g1 := C1.1.1
  have t1 := M_why g1 ok D1.2.1 b1 b2 hb1 hb2
  have f2 : FrM [] [] h h := FrM.rf _ _ h
  have l2 : LogS h h := LogS.rf h
  obtain ⟨C2, L2, D2, E2⟩ := qry2 C1 L1 D1 E1 f2 (by decide) (by decide) l2
  exact ⟨_, h, h, q1, t1, r, r', nu, ts, idm, K, cf, PF, Ks, u, m, pn, bk, a, M, T, G, MT, st, x, fk, fp, C2, L2, D2, E2, P.up⟩
theorem S_fetches {n : Nat} {h : AH} (I : Inv n h) (hn : n < 512) (a1 a2 : Int32) : StpI n h mX11_fetches mX12_fetches [.int a1, .int a2] := by
  obtain ⟨r, r', nu, ts, idm, K, cf, PF, Ks, u, m, pn, bk, a, M, T, G, MT, st, x, fk, fp, C, L, D, E, P⟩ := I
  obtain ⟨b1, rfl, hb1⟩ := iI_self a1
  obtain ⟨b2, rfl, hb2⟩ := iI_self a2
  have X := C.1
  have ok := X.2.2.2.2.2.1
  have na := P.1.at
  have t0 := P.2.1 0 (by decide)
  have t2 := P.2.1 2 (by decide)
  have G6 := P.2.2.2.2.2.2.2.2.2.1
  have mo := P.2.2.2.2.2.2.1
  have mo1 := mo.1
  have mo2 := mo.2.1
  have nb := P.2.2.2.2.2.2.2.2.2.2.2.2.2.2.2.2.2
  have room := D.2.2.1.room
  have hi14 : hI h 11 14 = iI (u : Int) := C.2.2.2.2.2.2.1.2.2.2.2.2.1
  have hsb : ∀ b, bF K b = true → st = true := fun b hb => by
    cases st with
    | true => rfl
    | false => rw [(P.2.2.2.2.2.1 rfl).2.1 b] at hb; cases hb
  obtain ⟨h1, q1, f1⟩ := C_fetches X na.2.2.2.2.2.2.1.1 b1 b2 hb1 hb2
  have f1 := FrR.c (O := []) f1
  have R1 := RuC.q C f1 (by decide)
  obtain ⟨C1, L1, D1, E1⟩ := qry C L D E f1 (by unfold scQ; simp) (by simp) R1
  have g1 := C1.1.1
  obtain ⟨h2, t1, f2⟩ := M_fetches g1 ok D1.2.1 D1.1 na.2.2.2.2.2.2.1 b1 b2 hb1 hb2
  have l2 : LogS h1 h2 := LogS.fr f2 (by decide) (by decide)
  obtain ⟨C2, L2, D2, E2⟩ := qry2 C1 L1 D1 E1 f2 (by decide) (by decide) l2
  exact ⟨_, h1, h2, q1, t1, r, r', nu, ts, idm, K, cf, PF, Ks, u, m, pn, bk, a, M, T, G, MT, st, x, fk, fp, C2, L2, D2, E2, P.up⟩
theorem S_later {n : Nat} {h : AH} (I : Inv n h) (hn : n < 512) (a1 a2 : Int32) : StpI n h mX11_later mX12_later [.int a1, .int a2] := by
  obtain ⟨r, r', nu, ts, idm, K, cf, PF, Ks, u, m, pn, bk, a, M, T, G, MT, st, x, fk, fp, C, L, D, E, P⟩ := I
  obtain ⟨b1, rfl, hb1⟩ := iI_self a1
  obtain ⟨b2, rfl, hb2⟩ := iI_self a2
  have X := C.1
  have ok := X.2.2.2.2.2.1
  have na := P.1.at
  have t0 := P.2.1 0 (by decide)
  have t2 := P.2.1 2 (by decide)
  have G6 := P.2.2.2.2.2.2.2.2.2.1
  have mo := P.2.2.2.2.2.2.1
  have mo1 := mo.1
  have mo2 := mo.2.1
  have nb := P.2.2.2.2.2.2.2.2.2.2.2.2.2.2.2.2.2
  have room := D.2.2.1.room
  have hi14 : hI h 11 14 = iI (u : Int) := C.2.2.2.2.2.2.1.2.2.2.2.2.1
  have hsb : ∀ b, bF K b = true → st = true := fun b hb => by
    cases st with
    | true => rfl
    | false => rw [(P.2.2.2.2.2.1 rfl).2.1 b] at hb; cases hb
  obtain ⟨h1, q1, f1⟩ := C_later X st L.2.2.2.1 b1 b2 hb1 hb2
  have f1 := FrR.c (O := []) f1
  have R1 := RuC.q C f1 (by decide)
  obtain ⟨C1, L1, D1, E1⟩ := qry C L D E f1 (by unfold scQ; simp) (by simp) R1
  have g1 := C1.1.1
  obtain ⟨h2, t1, f2, l2⟩ := M_later g1 ok D1.2.1 D1.1 P.1.ok st E1.2.2.2.1 b1 b2 hb1 hb2 (a u) D1.2.2.1.2.2.1 (by omega)
  obtain ⟨C2, L2, D2, E2⟩ := qry2 C1 L1 D1 E1 f2 (by decide) (by decide) l2
  exact ⟨_, h1, h2, q1, t1, r, r', nu, ts, idm, K, cf, PF, Ks, u, m, pn, bk, a, M, T, G, MT, st, x, fk, fp, C2, L2, D2, E2, P.up⟩
theorem S_expires {n : Nat} {h : AH} (I : Inv n h) (hn : n < 512) (a1 : Int32) : StpI n h mX11_expires mX12_expires [.int a1] := by
  obtain ⟨r, r', nu, ts, idm, K, cf, PF, Ks, u, m, pn, bk, a, M, T, G, MT, st, x, fk, fp, C, L, D, E, P⟩ := I
  obtain ⟨b1, rfl, hb1⟩ := iI_self a1
  have X := C.1
  have ok := X.2.2.2.2.2.1
  have na := P.1.at
  have t0 := P.2.1 0 (by decide)
  have t2 := P.2.1 2 (by decide)
  have G6 := P.2.2.2.2.2.2.2.2.2.1
  have mo := P.2.2.2.2.2.2.1
  have mo1 := mo.1
  have mo2 := mo.2.1
  have nb := P.2.2.2.2.2.2.2.2.2.2.2.2.2.2.2.2.2
  have room := D.2.2.1.room
  have hi14 : hI h 11 14 = iI (u : Int) := C.2.2.2.2.2.2.1.2.2.2.2.2.1
  have hsb : ∀ b, bF K b = true → st = true := fun b hb => by
    cases st with
    | true => rfl
    | false => rw [(P.2.2.2.2.2.1 rfl).2.1 b] at hb; cases hb
  have q1 := C_expires X st L.2.2.2.1 hsb b1 hb1
  have f1 : FrC [] [] h h := FrC.rf _ _ h
  have R1 : RuC h r nu ts := X.2.2.2.1
  obtain ⟨C1, L1, D1, E1⟩ := qry C L D E f1 (by unfold scQ; simp) (by simp) R1
  have g1 := C1.1.1
  obtain ⟨h2, t1, f2, l2⟩ := M_expires g1 ok D1.2.1 D1.1 P.1.ok b1 hb1 (a u) D1.2.2.1.2.2.1 (by omega)
  obtain ⟨C2, L2, D2, E2⟩ := qry2 C1 L1 D1 E1 f2 (by decide) (by decide) l2
  exact ⟨_, h, h2, q1, t1, r, r', nu, ts, idm, K, cf, PF, Ks, u, m, pn, bk, a, M, T, G, MT, st, x, fk, fp, C2, L2, D2, E2, P.up⟩
theorem S_gain {n : Nat} {h : AH} (I : Inv n h) (hn : n < 512) (a1 : Int32) : StpI n h mX11_gain mX12_gain [.int a1] := by
  obtain ⟨r, r', nu, ts, idm, K, cf, PF, Ks, u, m, pn, bk, a, M, T, G, MT, st, x, fk, fp, C, L, D, E, P⟩ := I
  obtain ⟨b1, rfl, hb1⟩ := iI_self a1
  have X := C.1
  have ok := X.2.2.2.2.2.1
  have na := P.1.at
  have t0 := P.2.1 0 (by decide)
  have t2 := P.2.1 2 (by decide)
  have G6 := P.2.2.2.2.2.2.2.2.2.1
  have mo := P.2.2.2.2.2.2.1
  have mo1 := mo.1
  have mo2 := mo.2.1
  have nb := P.2.2.2.2.2.2.2.2.2.2.2.2.2.2.2.2.2
  have room := D.2.2.1.room
  have hi14 : hI h 11 14 = iI (u : Int) := C.2.2.2.2.2.2.1.2.2.2.2.2.1
  have hsb : ∀ b, bF K b = true → st = true := fun b hb => by
    cases st with
    | true => rfl
    | false => rw [(P.2.2.2.2.2.1 rfl).2.1 b] at hb; cases hb
  obtain ⟨h1, q1, f1, R1⟩ := C_gain X t2 st L.2.2.2.1 b1 hb1
  obtain ⟨C1, L1, D1, E1⟩ := qry C L D E f1 (by unfold scQ; simp [clR]) (by simp) R1
  have g1 := C1.1.1
  obtain ⟨h2, t1, f2, l2⟩ := M_gain g1 ok D1.2.1 D1.1 P.1.ok t2 st E1.2.2.2.1 b1 hb1 (a u) D1.2.2.1.2.2.1 (by omega)
  obtain ⟨C2, L2, D2, E2⟩ := qry2 C1 L1 D1 E1 f2 (by decide) (by decide) l2
  exact ⟨_, h1, h2, q1, t1, r, r', nu, ts, idm, K, cf, PF, Ks, u, m, pn, bk, a, M, T, G, MT, st, x, fk, fp, C2, L2, D2, E2, P.up⟩
theorem S_odds {n : Nat} {h : AH} (I : Inv n h) (hn : n < 512) (a1 : Int32) : StpI n h mX11_odds mX12_odds [.int a1] := by
  obtain ⟨r, r', nu, ts, idm, K, cf, PF, Ks, u, m, pn, bk, a, M, T, G, MT, st, x, fk, fp, C, L, D, E, P⟩ := I
  obtain ⟨b1, rfl, hb1⟩ := iI_self a1
  have X := C.1
  have ok := X.2.2.2.2.2.1
  have na := P.1.at
  have t0 := P.2.1 0 (by decide)
  have t2 := P.2.1 2 (by decide)
  have G6 := P.2.2.2.2.2.2.2.2.2.1
  have mo := P.2.2.2.2.2.2.1
  have mo1 := mo.1
  have mo2 := mo.2.1
  have nb := P.2.2.2.2.2.2.2.2.2.2.2.2.2.2.2.2.2
  have room := D.2.2.1.room
  have hi14 : hI h 11 14 = iI (u : Int) := C.2.2.2.2.2.2.1.2.2.2.2.2.1
  have hsb : ∀ b, bF K b = true → st = true := fun b hb => by
    cases st with
    | true => rfl
    | false => rw [(P.2.2.2.2.2.1 rfl).2.1 b] at hb; cases hb
  obtain ⟨h1, q1, f1⟩ := C_odds X st L.2.2.2.1 b1 hb1
  have f1 := FrR.c (O := []) f1
  have R1 := RuC.q C f1 (by decide)
  obtain ⟨C1, L1, D1, E1⟩ := qry C L D E f1 (by unfold scQ; simp) (by simp) R1
  have g1 := C1.1.1
  have t1 := M_odds g1 ok D1.2.1 D1.1 P.1.ok st E1.2.2.2.1 b1 hb1
  have f2 : FrM [] [] h1 h1 := FrM.rf _ _ h1
  have l2 : LogS h1 h1 := LogS.rf h1
  obtain ⟨C2, L2, D2, E2⟩ := qry2 C1 L1 D1 E1 f2 (by decide) (by decide) l2
  exact ⟨_, h1, h1, q1, t1, r, r', nu, ts, idm, K, cf, PF, Ks, u, m, pn, bk, a, M, T, G, MT, st, x, fk, fp, C2, L2, D2, E2, P.up⟩
theorem S_windows {n : Nat} {h : AH} (I : Inv n h) (hn : n < 512) (a1 : Int32) : StpI n h mX11_windows mX12_windows [.int a1] := by
  obtain ⟨r, r', nu, ts, idm, K, cf, PF, Ks, u, m, pn, bk, a, M, T, G, MT, st, x, fk, fp, C, L, D, E, P⟩ := I
  obtain ⟨b1, rfl, hb1⟩ := iI_self a1
  have X := C.1
  have ok := X.2.2.2.2.2.1
  have na := P.1.at
  have t0 := P.2.1 0 (by decide)
  have t2 := P.2.1 2 (by decide)
  have G6 := P.2.2.2.2.2.2.2.2.2.1
  have mo := P.2.2.2.2.2.2.1
  have mo1 := mo.1
  have mo2 := mo.2.1
  have nb := P.2.2.2.2.2.2.2.2.2.2.2.2.2.2.2.2.2
  have room := D.2.2.1.room
  have hi14 : hI h 11 14 = iI (u : Int) := C.2.2.2.2.2.2.1.2.2.2.2.2.1
  have hsb : ∀ b, bF K b = true → st = true := fun b hb => by
    cases st with
    | true => rfl
    | false => rw [(P.2.2.2.2.2.1 rfl).2.1 b] at hb; cases hb
  obtain ⟨h1, q1, f1, R1⟩ := C_windows X t0 MT mo L.2.2.1 b1 hb1
  have f1 := FrR.c (O := []) f1
  obtain ⟨C1, L1, D1, E1⟩ := qry C L D E f1 (by unfold scQ; simp) (by simp) R1
  have g1 := C1.1.1
  obtain ⟨h2, t1, f2⟩ := M_windows g1 ok D1.2.1 D1.1 P.1.ok t0 MT mo E1.2.2.1 b1 hb1
  have l2 : LogS h1 h2 := LogS.fr f2 (by decide) (by decide)
  obtain ⟨C2, L2, D2, E2⟩ := qry2 C1 L1 D1 E1 f2 (by decide) (by decide) l2
  exact ⟨_, h1, h2, q1, t1, r, r', nu, ts, idm, K, cf, PF, Ks, u, m, pn, bk, a, M, T, G, MT, st, x, fk, fp, C2, L2, D2, E2, P.up⟩
theorem S_tells {n : Nat} {h : AH} (I : Inv n h) (hn : n < 512) (a1 a2 : Int32) : StpI n h mX11_tells mX12_tells [.int a1, .int a2] := by
  obtain ⟨r, r', nu, ts, idm, K, cf, PF, Ks, u, m, pn, bk, a, M, T, G, MT, st, x, fk, fp, C, L, D, E, P⟩ := I
  obtain ⟨b1, rfl, hb1⟩ := iI_self a1
  obtain ⟨b2, rfl, hb2⟩ := iI_self a2
  have X := C.1
  have ok := X.2.2.2.2.2.1
  have na := P.1.at
  have t0 := P.2.1 0 (by decide)
  have t2 := P.2.1 2 (by decide)
  have G6 := P.2.2.2.2.2.2.2.2.2.1
  have mo := P.2.2.2.2.2.2.1
  have mo1 := mo.1
  have mo2 := mo.2.1
  have nb := P.2.2.2.2.2.2.2.2.2.2.2.2.2.2.2.2.2
  have room := D.2.2.1.room
  have hi14 : hI h 11 14 = iI (u : Int) := C.2.2.2.2.2.2.1.2.2.2.2.2.1
  have hsb : ∀ b, bF K b = true → st = true := fun b hb => by
    cases st with
    | true => rfl
    | false => rw [(P.2.2.2.2.2.1 rfl).2.1 b] at hb; cases hb
  obtain ⟨h1, q1, f1, R1⟩ := C_tells X t0 ⟨by omega, na.2.2.2.1.2⟩ MT mo L.2.2.1 b1 b2 hb1 hb2
  have f1 := FrR.c (O := []) f1
  obtain ⟨C1, L1, D1, E1⟩ := qry C L D E f1 (by unfold scQ; simp) (by simp) R1
  have g1 := C1.1.1
  obtain ⟨h2, t1, f2⟩ := M_tells g1 ok D1.2.1 D1.1 P.1.ok t0 MT mo E1.2.2.1 b1 b2 hb1 hb2
  have l2 : LogS h1 h2 := LogS.fr f2 (by decide) (by decide)
  obtain ⟨C2, L2, D2, E2⟩ := qry2 C1 L1 D1 E1 f2 (by decide) (by decide) l2
  exact ⟨_, h1, h2, q1, t1, r, r', nu, ts, idm, K, cf, PF, Ks, u, m, pn, bk, a, M, T, G, MT, st, x, fk, fp, C2, L2, D2, E2, P.up⟩
theorem S_kept {n : Nat} {h : AH} (I : Inv n h) (hn : n < 512) (a1 a2 : Int32) : StpI n h mX11_kept mX12_kept [.int a1, .int a2] := by
  obtain ⟨r, r', nu, ts, idm, K, cf, PF, Ks, u, m, pn, bk, a, M, T, G, MT, st, x, fk, fp, C, L, D, E, P⟩ := I
  obtain ⟨b1, rfl, hb1⟩ := iI_self a1
  obtain ⟨b2, rfl, hb2⟩ := iI_self a2
  have X := C.1
  have ok := X.2.2.2.2.2.1
  have na := P.1.at
  have t0 := P.2.1 0 (by decide)
  have t2 := P.2.1 2 (by decide)
  have G6 := P.2.2.2.2.2.2.2.2.2.1
  have mo := P.2.2.2.2.2.2.1
  have mo1 := mo.1
  have mo2 := mo.2.1
  have nb := P.2.2.2.2.2.2.2.2.2.2.2.2.2.2.2.2.2
  have room := D.2.2.1.room
  have hi14 : hI h 11 14 = iI (u : Int) := C.2.2.2.2.2.2.1.2.2.2.2.2.1
  have hsb : ∀ b, bF K b = true → st = true := fun b hb => by
    cases st with
    | true => rfl
    | false => rw [(P.2.2.2.2.2.1 rfl).2.1 b] at hb; cases hb
  have svle : sv0 Ks K u ≤ (kK K).length := sv0_le P.2.2.2.2.1
  have q1 := C_kept X (by omega) (C.2.2.2.2.2.2.2.2.kept svle) b1 b2 hb1 hb2
  have f1 : FrC [] [] h h := FrC.rf _ _ h
  have R1 : RuC h r nu ts := X.2.2.2.1
  obtain ⟨C1, L1, D1, E1⟩ := qry C L D E f1 (by unfold scQ; simp) (by simp) R1
  have g1 := C1.1.1
  have t1 := M_kept g1 D1.2.1 (by omega) b1 b2 hb1 hb2
  have f2 : FrM [] [] h h := FrM.rf _ _ h
  have l2 : LogS h h := LogS.rf h
  obtain ⟨C2, L2, D2, E2⟩ := qry2 C1 L1 D1 E1 f2 (by decide) (by decide) l2
  exact ⟨_, h, h, q1, t1, r, r', nu, ts, idm, K, cf, PF, Ks, u, m, pn, bk, a, M, T, G, MT, st, x, fk, fp, C2, L2, D2, E2, P.up⟩
