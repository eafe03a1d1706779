/-! ===== L2: store over the invariant ===== -/
/-- the core of a fresh store -/
def k0K : KT := (0, [], fun _ => 0, [], [], [], fun _ => (false, 0, 0, 0), [], 0, fun _ => [])
theorem k0_ok : KOk k0K := ⟨⟨by decide, by decide⟩, List.Pairwise.nil, fun p hp => absurd hp (List.not_mem_nil), Nat.zero_le _, fun b hb => absurd hb (List.not_mem_nil), fun p => Or.inl rfl, fun p hp => absurd hp (List.not_mem_nil), Nat.zero_le _, Nat.zero_le _, fun p hp => absurd hp (Nat.not_lt_zero _), fun b hb z => absurd z Bool.false_ne_true⟩
theorem k0_ok2 : KO2 k0K := ⟨Nat.zero_le _, List.Pairwise.nil, fun p hp => absurd hp (List.not_mem_nil), fun p hp => absurd hp (List.not_mem_nil), Nat.zero_le _, Nat.zero_le _⟩
theorem mI_rep (n : Nat) (v : Int) : mI (List.replicate n v) = List.replicate n (iI v) := by unfold mI; rw [List.map_replicate]
theorem VbC.st {h : AH} (V : VbC h) (idm : Nat → Nat) : StC h 49 idm k0K := by
  obtain ⟨v1, v2, v3, v4, v5, v6, v7⟩ := V
  have e59 : mI (cntL k0K) = List.replicate 12 (iI 0) := mI_rep 12 0
  refine ⟨v1 50 (by decide), v1 51 (by decide), v1 52 (by decide), v1 53 (by decide), v1 54 (by decide), v1 55 (by decide), v1 56 (by decide), ⟨List.replicate 12 0, List.replicate 12 0, by rw [mI_rep]; exact v3 57 (by decide), by rw [mI_rep]; exact v3 58 (by decide), List.length_replicate, List.length_replicate, fun x hx => ?_, fun b hb z => absurd z Bool.false_ne_true⟩, by rw [e59]; exact v3 59 (by decide), v5 10 (by decide) (by decide), v5 11 (by decide) (by decide), v5 12 (by decide) (by decide), v5 13 (by decide) (by decide), v5 14 (by decide) (by decide)⟩
  rw [List.eq_of_mem_replicate hx]
  decide
theorem VbC.va {h : AH} (V : VbC h) (idm : Nat → Nat) : VaC h idm k0K [] [] := by
  obtain ⟨v1, -⟩ := V
  exact ⟨v1 45 (by decide), v1 46 (by decide), v1 43 (by decide), Nat.zero_le _, fun p hp => absurd hp (Nat.not_lt_zero _), fun p q hp => absurd hp (Nat.not_lt_zero _), [], v1 44 (by decide), rfl, fun p hp => absurd hp (Nat.not_lt_zero _)⟩
theorem VbC.fm {h : AH} (V : VbC h) : FmC h [] := by
  obtain ⟨v1, -⟩ := V
  exact ⟨v1 28 (by decide), v1 29 (by decide), v1 30 (by decide), v1 31 (by decide), List.Pairwise.nil, Nat.zero_le _, Nat.zero_le _⟩
theorem VbC.hs {h : AH} (V : VbC h) : HsC h [] := by
  obtain ⟨v1, v2, -⟩ := V
  have e : ∀ v : Nat, nthB (bkt [] v) 0 = -1 := fun v => rfl
  refine ⟨fun l hl => absurd hl (List.not_mem_nil), ?_, [], v1 33 (by decide), rfl, fun v j hj => absurd hj (Nat.not_lt_zero _)⟩
  rw [v2, show ((List.range 256).map fun v => nthB (bkt [] v) 0) = (List.range 256).map (fun _ => (-1 : Int)) from List.map_congr_left (fun v _ => e v), List.map_const', List.length_range, mI_rep]
theorem VbC.tl {h : AH} (V : VbC h) (idm : Nat → Nat) (Ks : Nat → KT) : TlC h idm k0K [] [] Ks 0 := by
  obtain ⟨v1, -⟩ := V
  exact ⟨[], [], v1 34 (by decide), v1 37 (by decide), rfl, fun x hx => absurd hx (List.not_mem_nil), ⟨rfl, fun f hf => absurd hf (Nat.not_lt_zero _)⟩, fun i hi => absurd hi (Nat.not_lt_zero _)⟩
theorem VbC.rg {h : AH} (V : VbC h) (s : Nat) : RgA h k0K s := by
  obtain ⟨-, -, -, v4, -⟩ := V
  exact ⟨List.replicate 64 0, List.replicate 64 0, List.replicate 64 0, by rw [mI_rep]; exact v4 72 (by decide), by rw [mI_rep]; exact v4 73 (by decide), by rw [mI_rep]; exact v4 74 (by decide), List.length_replicate, List.length_replicate, List.length_replicate, fun i hi => absurd hi (Nat.not_lt_zero _)⟩
theorem KM.zero {h : AH} (z : ∀ j, j < 42000 → hI h 109 j = iI 0) : KM h k0K :=
  ⟨z 0 (by omega), z 1 (by omega), z 3 (by omega), z 4 (by omega), z 5 (by omega), z 6 (by omega), z 7 (by omega), fun b hb => ⟨z _ (by omega), fun y => absurd y Bool.false_ne_true⟩, fun j hj => absurd hj (Nat.not_lt_zero _), fun p hp => absurd hp (Nat.not_lt_zero _), fun i hi => absurd hi (Nat.not_lt_zero _), fun s hs => absurd hs (Nat.not_lt_zero _), fun i hi => absurd hi (Nat.not_lt_zero _), ⟨fun _ => 0, fun p hp => absurd hp (Nat.not_lt_zero _), z 2 (by omega), fun p hp => absurd hp (Nat.not_lt_zero _)⟩, fun i hi => absurd hi (by
    show ¬ i < min 0 40
    omega)⟩
theorem ZrM.zero {h : AH} (z : ∀ j, j < 42000 → hI h 109 j = iI 0) : ZrM h k0K := ⟨fun x h1 h2 => z x (by omega), z 2 (by omega)⟩
section
variable {h h1 h2 : AH} {r r' : Nat} {nu nv : List Int} {ts tv : Nat → List (Int × Int)} {idm : Nat → Nat} {K : KT} {cf : List (List Int)} {PF : List Int} {Ks : Nat → KT} {u m pn bk : Nat} {a : Nat → Nat} {M : Nat → Nat → Int32} {T G MT : List Int} {st : Bool} {x fk fp : Int}
/-- the class reads a text that is no store's -/
theorem CK.b (C : CK h r r' nu ts idm K cf PF Ks u m pn) (f : FrB ([1, 2, 5, 6, 7] ++ ruS r') [0, 3, r'] h h1) (g1 : Gr h1) : CK h1 r r' nu ts idm K cf PF Ks u m pn := by
  obtain ⟨c1, c2, ⟨F, F1, F2⟩, c4, c5, c6, c7, c8, c9⟩ := C
  obtain ⟨hs, ehs⟩ : ∃ hs : AH, hs = (h1.1, h1.2.1, h1.2.2.1, h1.2.2.2.1, h.2.2.2.2.1, h1.2.2.2.2.2) := ⟨_, rfl⟩
  have ei : hI hs = hI h1 := by rw [ehs]; rfl
  have er : hR hs = hR h1 := by rw [ehs]; rfl
  have et : hT hs = hT h1 := by rw [ehs]; rfl
  have en : hN hs = hN h1 := by rw [ehs]; rfl
  have ep : hP hs = hP h := by rw [ehs]; rfl
  have fs : FrC ([1, 2, 5, 6, 7] ++ ruS r') [0, 3, r'] h hs := ⟨by rw [en]; exact f.1, by rw [et]; exact f.2.1, ep, by rw [ehs]; exact f.2.2.1, by rw [ei]; exact f.2.2.2.2.2.1, by rw [er]; exact f.2.2.2.2.2.2⟩
  have no : ∀ q, q ∉ [1, 2, 5, 6, 7, r' + 1, r' + 3, r' + 6, r' + 9] → q ∉ [1, 2, 5, 6, 7] ++ ruS r' := fun q hq z => hq (by
    unfold ruS at z
    simp only [List.mem_append, List.mem_cons, List.not_mem_nil, or_false] at z ⊢
    omega)
  have nr : ∀ q, q ∉ [1, 2, 5, 6, 7, r' + 1, r' + 3, r' + 6, r' + 9] → hR h1 q = hR h q := fun q hq => f.2.2.2.2.2.2 q (no q hq)
  have nl : ∀ q, q ∈ [4, 32, 33, 34, 35, 37, 72, 73, 74, r + 1, r + 3, r + 6, r + 9, r + 11, r' + 11, 28, 29, 30, 31, 43, 44, 45, 46, 50, 51, 52, 53, 54, 55, 56, 57, 58, 59] → q ∉ [1, 2, 5, 6, 7, r' + 1, r' + 3, r' + 6, r' + 9] := fun q hq z => by
    rcases c2 with ⟨e1, e2⟩ | ⟨e1, e2⟩ <;> subst e1 <;> subst e2 <;> revert q <;> decide
  have ru : ∀ k, k = 1 ∨ k = 3 ∨ k = 6 ∨ k = 9 ∨ k = 11 → hR h1 (r + k) = hR h (r + k) := fun k hk => nr _ (nl _ (by
    simp only [List.mem_cons, List.not_mem_nil, or_false]
    omega))
  have R1 : RuC h1 r nu ts := by
    obtain ⟨u1', u2', u3, u4, F', u5, u6⟩ := c1.2.2.2.1
    exact ⟨by rw [ru 1 (by omega)]; exact u1', by rw [ru 3 (by omega)]; exact u2', by rw [ru 6 (by omega)]; exact u3, by rw [ru 9 (by omega)]; exact u4, F', by rw [ru 11 (by omega)]; exact u5, u6⟩
  have Rs : RuC hs r nu ts := by
    unfold RuC
    rw [er]
    exact R1
  have n11 : (11 : Nat) ∉ [0, 3, r'] := by
    simp only [List.mem_cons, List.not_mem_nil, or_false]
    omega
  have Xs : ClsX hs r nu ts idm K cf PF := c1.frC fs (fun q hq => no q (nl q (by
    simp only [List.mem_cons, List.not_mem_nil, or_false] at hq ⊢
    omega))) (by
    simp only [List.mem_cons, List.not_mem_nil, or_false]
    omega) Rs
  have X1 : ClsX h1 r nu ts idm K cf PF := by
    obtain ⟨y1, y2, y3, y4, y5, y6, y7, y8, y9⟩ := Xs
    refine ⟨g1, y2, by rw [f.2.2.2.1 11 (by decide)]; exact c1.2.2.1, R1, y5, y6, ?_, ?_, ?_⟩
    · unfold StC at y7 ⊢
      rw [er, ei] at y7
      exact y7
    · unfold VaC at y8 ⊢
      rw [er] at y8
      exact y8
    · unfold FmC at y9 ⊢
      rw [er] at y9
      exact y9
  have Hs : HiC hs idm Ks u m pn := c7.fr fs (fun q hq => by
    unfold ruS at hq
    simp only [List.mem_append, List.mem_cons, List.not_mem_nil, or_false] at hq
    omega) (fun q hq => by
    simp only [List.mem_cons, List.not_mem_nil, or_false] at hq
    omega) ⟨by rw [ei, f.2.2.2.2.2.1 11 n11], by rw [ei, f.2.2.2.2.2.1 11 n11]⟩
  have H1 : HiC h1 idm Ks u m pn := by
    obtain ⟨k1, k2, k3, ⟨p1, p2, p3, p4⟩, k5, k6, k7⟩ := Hs
    have e71 : hP h1 71 = hP hs 71 := by rw [ep]; exact f.2.2.2.1 71 (by decide)
    refine ⟨k1, k2, k3, ⟨p1, by rw [← en]; exact p2, fun k hk => ⟨by rw [e71]; exact (p3 k hk).1, (p3 k hk).2.ag (fun q _ _ => by rw [et]) (by rw [ep]; exact f.2.2.2.1 _ (by omega))⟩, fun k z1 z2 => by rw [e71]; exact p4 k z1 z2⟩, by rw [← ei]; exact k5, by rw [← ei]; exact k6, fun i hi => ⟨(k7 i hi).1, (k7 i hi).2.ag (fun q _ _ => by rw [er]) (by rw [ei])⟩⟩
  refine ⟨X1, c2, ⟨F, by rw [nr _ (nl _ (by simp))]; exact F1, F2⟩, ?_, c5.rows (nr 32 (nl _ (by simp))) (nr 33 (nl _ (by simp))), ?_, H1, c8.rows (nr 34 (nl _ (by simp))) (nr 37 (nl _ (by simp))), c9.rows (fun q hq => nr q (nl q (by
    simp only [List.mem_cons, List.not_mem_nil, or_false] at hq ⊢
    omega)))⟩
  · unfold WdC
    rw [nr 4 (nl _ (by simp))]
    exact c4
  · rw [nr 35 (nl _ (by simp))]
    exact c6
theorem MK.ru (C : MK h bk nv tv K Ks u a M) {bk' : Nat} {nu' : List Int} {ts' : Nat → List (Int × Int)} (R : RuM h1 bk' nu' ts') (k : ∀ q ∈ [109, 112, 113, 114, 115, 116, 117, 118, 119], hI h1 q = hI h q) (e5 : hI h1 95 37 = hI h 95 37 ∧ hI h1 95 39 = hI h 95 39) (l : LogS h h1) : MK h1 bk' nu' ts' K Ks u a M := by
  obtain ⟨c1, c2, c3, c4, c5⟩ := C
  have kk : ∀ q ∈ [109, 113, 114, 115, 116, 117, 118, 119], hI h1 q = hI h q := fun q hq => k q (by revert q; decide)
  refine ⟨R, c2.eq kk, c3.fr (k 109 (by decide)) e5.1 e5.2 (k 112 (by decide)) l, c4.eq (k 109 (by decide)), fun i hi => ⟨(c5 i hi).1.eq (fun q hq => ?_), (c5 i hi).2.eq ?_⟩⟩
  · rw [hI_sA, hI_sA]
    by_cases z : q = 109
    · rw [z, u1_eq, u1_eq]
    · rw [u1_ne z, u1_ne z]
      exact kk q hq
  · rw [hI_sA, hI_sA, u1_eq, u1_eq]
end
theorem S_store {n : Nat} {h : AH} (I : Inv n h) (hn : n < 512) : StpI n h mX11_store mX12_store [] := by
  obtain ⟨r, r', nu, ts, idm, K, cf, PF, Ks, u, m, pn, bk, nv, tv, a, M, T, G, MT, st, x, fk, fp, C, L, D, E, P, V⟩ := I
  have X := C.1
  have G6 := P.2.2.2.2.2.2.2.2.2.1
  have hx := P.2.2.2.2.2.2.2.2.2.2.1
  have hl := P.2.2.2.2.2.2.2.2.1
  have hr := P.2.2.2.2.2.2.2.1
  have rr := C.2.1
  have x2 := X.2.1
  have q := C_store X.1 (T := T) ⟨L.1, hl, hr⟩ C.2.2.2.1 rr X.2.2.1 C.2.2.1 G L.2.1 G6
  rcases eA : sAll T with t | y
  · rw [eA] at q
    obtain ⟨h1, q1, g1, ⟨f1, f2, f3, f4, f5, f6, f7⟩, p1, R1, V1, d7, d8, d9, r1, r80⟩ := q
    obtain ⟨mm, hmT, TL⟩ := tk_last T
    have hm : mm ≤ 1600 := by omega
    obtain ⟨⟨s1, s2, s3, s4, s5, s6, s7⟩, hn0⟩ := sLp_ok TL (fun k hk => tk_num T k hk) hm 42 _ t (sOk0 mm) eA
    have N : nuR true t.2.2.1 := ⟨s3, fun i i1 i2 => s4 i i2 (fun z => absurd z (by omega)), fun _ => s4 0 (by decide) (fun _ => hn0), fun z => by cases z⟩
    have nr : ∀ q, q ∈ [2, 4, r + 11] → hR h1 q = hR h q := fun q hq => f7 q (fun z => by
      unfold ruS vbS at z
      simp only [List.mem_append, List.mem_cons, List.not_mem_nil, or_false] at hq z
      omega)
    have A1 : AgRe h h1 := fun q z1 z2 => ⟨f6 q (by
      simp only [List.mem_cons, List.not_mem_nil, or_false]
      omega), by rw [f3]⟩
    have D1 := D.re A1
    have E1 := E.re A1
    obtain ⟨F, F1, F2⟩ : ∃ F : List Int, hR h (r + 11) = mI F ∧ F.length = 29 := by
      obtain ⟨-, -, -, -, F, F1, F2⟩ := X.2.2.2.1
      exact ⟨F, F1, F2⟩
    have C1 : CK h1 r' r t.2.2.1 t.2.2.2 idm k0K [] [] Ks 0 m 0 := by
      refine ⟨⟨g1, by omega, p1, R1, N.ok, k0_ok, V1.st idm, V1.va idm, V1.fm⟩, by omega, ⟨F, by rw [nr _ (by simp)]; exact F1, F2⟩, ?_, V1.hs, ?_, ?_, V1.tl idm Ks, V1.rg _⟩
      · unfold WdC
        rw [nr 4 (by simp)]
        exact C.2.2.2.1
      · exact V1.1 35 (by decide)
      · obtain ⟨k1, k2, k3, ⟨y1, y2, y3, y4⟩, k5, k6, k7⟩ := C.2.2.2.2.2.2.1
        have e71 : hP h1 71 = hP h 71 := f4 71 (by decide) (by decide) (by decide)
        exact ⟨Nat.zero_le _, by decide, Nat.zero_le _, ⟨y1, by rw [f1]; exact y2, fun k hk => ⟨by rw [e71]; exact (y3 k hk).1, (y3 k hk).2.ag (fun q _ _ => by rw [f2]) (f4 _ (by omega) (by omega) (by omega))⟩, fun k z1 z2 => by rw [e71]; exact y4 k z1 z2⟩, V1.2.2.2.2.2.1, V1.2.2.2.2.2.2, fun i hi => absurd hi (Nat.not_lt_zero _)⟩
    have L1 : CL h1 [] G [] true x 0 (-1) := ⟨r1, by rw [nr 2 (by simp)]; exact L.2.1, r80, d7, d8, d9, by rw [f5]; exact L.2.2.2.2.2.2⟩
    have w := m_store g1 D1.1 T E1.1 hl hr G E1.2.1
    rw [eA] at w
    obtain ⟨h2, t1, f, v1, v10, v11, v32, v37, v39, v65, v9, R2⟩ := w
    have A2 : AgCl h1 h2 := f.cl (by decide)
    refine ⟨_, h1, h2, q1, t1, C1.1.1, r', r, t.2.2.1, t.2.2.2, idm, k0K, [], [], Ks, 0, m, 0, 1 - bk, t.2.2.1, t.2.2.2, fun _ => 0, M, [], G, [], true, x, 0, -1, C1.m A2, L1.m A2, ⟨R2, KM.zero v9, ⟨by decide, v39, v37, rfl, fun i hi => absurd hi (Nat.not_lt_zero _), fun i hi => absurd hi (Nat.not_lt_zero _)⟩, ZrM.zero v9, fun i hi => absurd hi (Nat.not_lt_zero _)⟩, ?_, ?_, N.ok, s6, N.at.1.2, fun z => (by cases z), fun _ => ⟨rfl, rfl⟩⟩
    · refine ⟨⟨v1, fun i hi => absurd hi (Nat.not_lt_zero _)⟩, ?_, ⟨v65, fun i hi => absurd hi (Nat.not_lt_zero _)⟩, v32, v10, v11, ?_⟩
      · unfold RefM
        rw [f.2.2.2.2.1 108 (by decide) (by decide)]
        exact E1.2.1
      · exact (kl_mX12_store _ _ _ t1).trans E1.2.2.2.2.2.2
    · exact ⟨N, s6, k0_ok2, fun i hi => absurd hi (Nat.not_lt_zero _), fun i hi => absurd hi (Nat.not_lt_zero _), fun z => (by cases z), MtOk.nil, fun y hy => absurd hy (List.not_mem_nil), Nat.zero_le _, G6, hx, Nat.zero_le _, Nat.zero_le _, Nat.zero_le _, Nat.zero_le _, Nat.zero_le _, Nat.zero_le _, Nat.zero_le _⟩
  · rw [eA] at q
    obtain ⟨h1, q1, g1, f1, d7, d8, d9, r1, r2⟩ := q
    have C1 := C.b f1 g1
    have A1 : AgRe h h1 := fun q z1 z2 => ⟨f1.2.2.2.2.2.1 q (by
      simp only [List.mem_cons, List.not_mem_nil, or_false]
      omega), by rw [f1.2.2.1]⟩
    have D1 := D.re A1
    have E1 := E.re A1
    have L1 : CL h1 [] (bump G 1) MT st x y.1 y.2 := by
      obtain ⟨e1, e2, e3, e4, e5, e6, e7⟩ := L
      refine ⟨r1, r2, ?_, by rw [d7]; exact e4, d8, d9, ?_⟩
      · rw [f1.2.2.2.2.2.2 80 (by
          unfold ruS
          simp only [List.mem_append, List.mem_cons, List.not_mem_nil, or_false]
          omega)]
        exact e3
      · rw [f1.2.2.2.2.2.1 11 (by
          simp only [List.mem_cons, List.not_mem_nil, or_false]
          omega)]
        exact e7
    have w := m_store g1 D1.1 T E1.1 hl hr G E1.2.1
    rw [eA] at w
    obtain ⟨h2, t1, f, v1, v10, v11, v8, R2⟩ := w
    have A2 : AgCl h1 h2 := f.cl (by decide)
    have D2 : MK h2 bk nv tv K Ks u a M := D1.ru R2 (fun q hq => f.2.2.2.2.1 q (by revert q; decide) (fun z => by rw [z] at hq; exact absurd hq (by decide))) ⟨f.2.2.2.2.2.1 37 (by decide), f.2.2.2.2.2.1 39 (by decide)⟩ (LogS.fr f (by decide) (by decide))
    refine ⟨_, h1, h2, q1, t1, C1.1.1, r, r', nu, ts, idm, K, cf, PF, Ks, u, m, pn, bk, nv, tv, a, M, [], bump G 1, MT, st, x, y.1, y.2, C1.m A2, L1.m A2, D2, ?_, P.tape (Nat.zero_le _) (fun y hy => absurd hy (List.not_mem_nil)) (bump6 G6 1) P.2.2.2.2.2.2.1, V⟩
    obtain ⟨e1, e2, e3, e4, e5, e6, e7⟩ := E1
    refine ⟨⟨v1, fun i hi => absurd hi (Nat.not_lt_zero _)⟩, RefM_u1 G6 e2 1 (by decide) v8, ?_, by rw [f.2.2.2.2.2.1 32 (by decide)]; exact e4, v10, v11, (kl_mX12_store _ _ _ t1).trans e7⟩
    unfold MetM
    rw [f.2.2.2.2.2.1 65 (by decide), f.2.2.2.2.1 134 (by decide) (by decide), f.2.2.2.2.1 135 (by decide) (by decide)]
    exact e3
