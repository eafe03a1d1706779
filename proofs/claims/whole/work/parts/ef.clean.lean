/-! ===== L2: clean over the invariant ===== -/
section
variable {h h1 h2 : AH} {r r' : Nat} {nu nv : List Int} {ts tv : Nat → List (Int × Int)} {idm : Nat → Nat} {K : KT} {cf : List (List Int)} {PF : List Int} {Ks : Nat → KT} {u m pn bk : Nat} {a : Nat → Nat} {M : Nat → Nat → Int32} {T G MT : List Int} {st : Bool} {x fk fp : Int}
/-- the reference refuses: its light cells have changed -/
theorem lig3 (C : CK h1 r r' nu ts idm K cf PF Ks u m pn) (D : MK h1 bk nv tv K Ks u a M) {S S5 : List Nat} (f : FrM S S5 h1 h2) (hS : ∀ q ∈ S, q ∈ [96, 108, 120, 121, 122, 123, 124, 125, 126, 127, 128, 131, 132, 133, 134, 135]) (h5 : ∀ k ∈ S5, k ∈ [1, 10, 11, 51, 53, 59, 65]) : CK h2 r r' nu ts idm K cf PF Ks u m pn ∧ MK h2 bk nv tv K Ks u a M ∧ AgCl h1 h2 := by
  have rg : ∀ q ∈ S, q = 96 ∨ q = 108 ∨ (120 ≤ q ∧ q ≤ 128) ∨ (131 ≤ q ∧ q ≤ 135) := fun q hq => by
    have := hS q hq
    simp only [List.mem_cons, List.not_mem_nil, or_false] at this
    omega
  have A : AgCl h1 h2 := f.cl (fun q hq => by have := rg q hq; omega)
  have e5 : ∀ k, k = 13 ∨ k = 37 ∨ k = 39 → hI h2 95 k = hI h1 95 k := fun k hk => f.2.2.2.2.2.1 k (fun z => by
    have := h5 k z
    simp only [List.mem_cons, List.not_mem_nil, or_false] at this
    omega)
  refine ⟨C.m A, D.q (fun q hq => ?_) ⟨e5 13 (by omega), e5 37 (by omega), e5 39 (by omega)⟩ (LogS.fr f (fun z => by have := rg 110 z; omega) (fun z => by have := rg 111 z; omega)), A⟩
  simp only [List.mem_cons, List.not_mem_nil, or_false] at hq
  exact f.2.2.2.2.1 q (fun z => by have := rg q z; omega) (by omega)
theorem RefM_u1 {h' : AH} (hG : G.length = 6) (R : RefM G h) (k : Nat) (hk : k < 6) (e : hI h' 108 = u1 (hI h 108) k (iI (G.getD k 0 + 1))) : RefM (bump G k) h' := by
  intro i hi
  have := RefM_bump hG R k hk i hi
  rw [hI_sI] at this
  rw [e, u1_app]
  rw [u2_app] at this
  by_cases z : i = k
  · rw [if_pos z]
    rw [if_pos ⟨rfl, z⟩] at this
    exact this
  · rw [if_neg z]
    rw [if_neg (fun y => z y.2)] at this
    exact this
end
theorem S_clean {n : Nat} {h : AH} (I : Inv n h) (hn : n < 512) : StpI n h mX11_clean mX12_clean [] := by
  obtain ⟨r, r', nu, ts, idm, K, cf, PF, Ks, u, m, pn, bk, nv, tv, a, M, T, G, MT, st, x, fk, fp, C, L, D, E, P, V⟩ := I
  have X := C.1
  have ok := X.2.2.2.2.2.1
  have H := C.2.2.2.2.2.2.1
  have hu := H.1
  have G6 := P.2.2.2.2.2.2.2.2.2.1
  have hx := P.2.2.2.2.2.2.2.2.2.2.1
  have ch := P.2.2.2.2.1
  have t2 := P.2.1 2 (by decide)
  have st0 : st = false → kX K = [] := fun z => (P.2.2.2.2.2.1 z).1
  have rr := C.2.1
  have sk : SaK K (setX K (clX K nu ts)) := ⟨rfl, rfl, rfl, rfl, rfl, rfl⟩
  rcases C_clean X t2 H G L.2.1 G6 with ⟨c, h1, m1, q1, ⟨ha, hb, w1, w2, w3⟩, X', H'⟩ | ⟨c, h1, q1, f1, R1, r2⟩
  · have hst : st = true := st_chL P c
    have w : AgW (acR r) [49, 60] h h1 := ((w1.w.mono (fun q hq => by
      unfold clR at hq
      unfold acR
      simp only [List.mem_cons, List.not_mem_nil, or_false] at hq ⊢
      omega) (by simp)).tr (w2.w.mono (by simp) (by simp))).tr (w3.w.mono (fun q hq => by
      unfold stR at hq
      unfold acR
      simp only [List.mem_cons, List.not_mem_nil, or_false] at hq ⊢
      omega) (by simp))
    obtain ⟨C1, L1, D1, E1⟩ := act1 C L D E ch w (fun _ hq => hq) (by simp) (x' := x) (by rw [w.2.1 (by decide) 15 (by decide) (by decide)]; exact L.2.2.2.2.2.2) X' H' sk
    obtain ⟨v1, v2⟩ := V.2.2.2.2 hst
    rw [v1, v2] at D1 V
    rcases M_clean C1.1.1 ok D1.2.1 D1.1 V.1 t2 D1.2.2.1 st E1.2.2.2.1 st0 G E1.2.1 with ⟨-, h2, a2, t1, f2, km, hi, zf⟩ | ⟨c', -⟩
    · obtain ⟨C2, L2, D2, E2⟩ := act2 hu C1 L1 D1 E1 f2 (by decide) (by decide) (by rw [f2.2.2.2.2.2.2 95 (by decide)]; exact E1.2.2.2.2.2.2) km hi zf sk
      exact ⟨_, h1, h2, q1, t1, C1.1.1, r, r', nu, ts, idm, _, cf, PF, _, _, m1, _, bk, nu, ts, a2, _, T, G, MT, st, _, fk, fp, C2, L2, D2, E2, P.act ok hu hst sk hx, V⟩
    · exact absurd c' c
  · have A1 : AgRe h h1 := f1.re (by simp)
    have i0 : ∀ q, q ≠ 60 → hI h1 q = hI h q := fun q hq => f1.2.2.2.2.1 q (by simpa using hq)
    have C1 := C.q f1 (fun q hq => by
      unfold clR at hq
      unfold scR
      simp only [List.mem_cons, List.not_mem_nil, or_false] at hq ⊢
      omega) (by simp) (fun k _ => by rw [i0 11 (by decide)]) R1
    have D1 := D.re A1
    have E1 := E.re A1
    have nr : ∀ q, q = 1 ∨ q = 80 → hR h1 q = hR h q := fun q hq => f1.2.2.2.2.2 q (fun z => by
      unfold clR at z
      simp only [List.mem_cons, List.not_mem_nil, or_false] at z
      omega)
    have L1 : CL h1 T (bump G 2) MT st x fk fp := by
      unfold CL
      rw [nr 1 (by omega), nr 80 (by omega), i0 0 (by decide), i0 11 (by decide), r2]
      exact ⟨L.1, rfl, L.2.2⟩
    rcases M_clean C1.1.1 ok D1.2.1 D1.1 V.1 (V.2.1 2 (by decide)) D1.2.2.1 st E1.2.2.2.1 st0 G E1.2.1 with ⟨c', -⟩ | ⟨-, h2, t1, f2, e2⟩
    · obtain ⟨v1, v2⟩ := V.2.2.2.2 (st_chL P c')
      rw [v1, v2] at c'
      exact absurd c c'
    · obtain ⟨C2, D2, A2⟩ := lig3 C1 D1 f2 (by decide) (by decide)
      have i5 : hI h2 95 = hI h1 95 := by funext k; exact f2.2.2.2.2.2.1 k (by simp)
      refine ⟨_, h1, h2, q1, t1, C1.1.1, r, r', nu, ts, idm, K, cf, PF, Ks, u, m, pn, bk, nv, tv, a, M, T, bump G 2, MT, st, x, fk, fp, C2, L1.m A2, D2, ?_, P.refused 2, V⟩
      obtain ⟨e1, e2', e3, e4⟩ := E1
      refine ⟨?_, RefM_u1 G6 e2' 2 (by decide) e2, ?_, ?_⟩
      · unfold TapeM
        rw [i5, f2.2.2.2.2.1 96 (by decide) (by decide)]
        exact e1
      · unfold MetM
        rw [i5, f2.2.2.2.2.1 134 (by decide) (by decide), f2.2.2.2.2.1 135 (by decide) (by decide)]
        exact e3
      · rw [i5, f2.2.2.2.2.2.2 95 (by decide)]
        exact e4
