/-! ===== L2: pieces of a segment are saved: the core ===== -/
def useK (room : Int) (sg : Nat → Nat × Nat) (ch : List Int) (lf : Nat) (K : KT) (c : List Int) : KT := if 0 ≤ hadP K sg ch lf c then addU K (hadP K sg ch lf c).toNat else addU (wrP K room c) (kP K)
def useN (sg : Nat → Nat × Nat) (ch : List Int) (lf : Nat) (K : KT) (c : List Int) : Int := if 0 ≤ hadP K sg ch lf c then 0 else 1
def useF (room : Int) (sg : Nat → Nat × Nat) (ch : List Int) (lf : Nat) (K : KT) (cs : Nat → List Int) : Nat → KT × Int
  | 0 => (K, 0)
  | i + 1 => (useK room sg ch lf (useF room sg ch lf K cs i).1 (cs i), (useF room sg ch lf K cs i).2 + useN sg ch lf (useF room sg ch lf K cs i).1 (cs i))
def lenS (cs : Nat → List Int) : Nat → Nat
  | 0 => 0
  | i + 1 => lenS cs i + (cs i).length
/-- boxes opened since K0, W bytes having been written since -/
def BgW (K0 K : KT) (W : Nat) : Prop := (kX K0).length ≤ (kX K).length ∧ ((kX K).length = (kX K0).length ∨ 61 * (((kX K).length : Int) - ((kX K0).length : Int) - 1) + byt K ((kX K).getLastD (0, 0, [])) ≤ 2 * (W : Int))
theorem KOk.aU {K : KT} (ok : KOk K) {p : Nat} (hp : p < kP K) (hl : (kU K).length < 10240) : KOk (addU K p) := by
  obtain ⟨o1, o2, o3, o4, o5, o6, o7, o8, o9, o10, o11⟩ := ok
  refine ⟨o1, o2, o3, o4, o5, o6, fun q hq => ?_, ?_, o9, o10, fun b hb hf => ?_⟩
  · have hq' : q ∈ kU K ++ [p] := hq
    rcases List.mem_append.mp hq' with z | z
    · exact o7 q z
    · rw [List.mem_singleton.mp z]; exact hp
  · show (kU K ++ [p]).length ≤ 10240
    rw [List.length_append, List.length_singleton]; omega
  · obtain ⟨a1, a2, a3, a4, a5⟩ := o11 b hb hf
    have e : ∀ k, k < bM K b → pOf (addU K p) b k = pOf K b k := fun k hk => by
      show (kU K ++ [p]).getD (bO K b + k) 0 = _
      unfold pOf
      rw [List.getD_eq_getElem?_getD, List.getElem?_append_left (by omega), ← List.getD_eq_getElem?_getD]
    refine ⟨a1, ?_, a3, ?_, fun k hk => ?_⟩
    · show bO K b + bM K b ≤ (kU K ++ [p]).length
      rw [List.length_append]; omega
    · have : bLen (addU K p) b = bLen K b := by
        unfold bLen
        refine sumN_cg _ (fun k hk => ?_)
        rw [e k hk]; rfl
      rw [this]; exact a4
    · rw [e k hk]; exact a5 k hk
theorem hadP_cases (K : KT) (sg : Nat → Nat × Nat) (ch : List Int) (lf : Nat) (c : List Int) : (∃ p : Nat, hadP K sg ch lf c = p ∧ p ∈ flat K ∧ kC K p = c) ∨ hadP K sg ch lf c = -1 := by
  unfold hadP
  by_cases z : 0 ≤ ffst (fun i => decide (0 ≤ hitS K (sg (ch.getD i 0).toNat) c)) ch.length
  · rw [if_pos z]
    rcases hitS_cases K (sg (ch.getD (ffst (fun i => decide (0 ≤ hitS K (sg (ch.getD i 0).toNat) c)) ch.length).toNat 0).toNat) c with ⟨j, h1, h2, h3, h4, h5⟩ | ⟨h1, h2⟩
    · exact Or.inl ⟨_, h5, h2, h3⟩
    · exact Or.inr h2
  · rw [if_neg z]
    unfold hitL
    rcases hitS_cases K (lf, (kU K).length - lf) c with ⟨j, h1, h2, h3, h4, h5⟩ | ⟨h1, h2⟩
    · exact Or.inl ⟨_, h5, h2, h3⟩
    · exact Or.inr h2
/-- K' comes from K by saving i pieces of W bytes; lf: how many uses there were -/
def UsP (K K' : KT) (lf i W : Nat) : Prop := KOk K' ∧ (kU K').length = lf + i ∧ (∀ j, lf ≤ j → j < lf + i → (kU K').getD j 0 ∈ flat K') ∧ (kP K ≤ kP K' ∧ kP K' ≤ kP K + i) ∧ (flat K').length ≤ (flat K).length + i ∧ byN K' ≤ byN K + W ∧ byN K ≤ byN K' ∧ (∀ j, j < lf → (kU K').getD j 0 = (kU K).getD j 0) ∧ (∀ p, p < kP K → kC K' p = kC K p) ∧ (∀ p ∈ flat K, p ∈ flat K') ∧ kG K' = kG K ∧ kH K' = kH K ∧ kD K' = kD K ∧ kB K' = kB K ∧ kK K' = kK K ∧ (∀ p, p < kP K → kS K' p = kS K p)
theorem UsP.step {K K' : KT} {lf i W : Nat} (U : UsP K K' lf i W) (room : Int) (sg : Nat → Nat × Nat) (ch : List Int) {c : List Int} (hc : okC c) (hP : kP K' < 10240) (hl : (flat K').length < 300) (hu : lf + i < 10240) : UsP K (useK room sg ch lf K' c) lf (i + 1) (W + c.length) := by
  obtain ⟨u1, u2, u3, ⟨u4, u4'⟩, u5, u6, u6', u7, u8, u9, u10, u11, u12, u13, u14, u15⟩ := U
  have old : ∀ (l : List Nat) (p j : Nat), j < l.length → (l ++ [p]).getD j 0 = l.getD j 0 := fun l p j hj => by
    rw [List.getD_eq_getElem?_getD, List.getElem?_append_left hj, ← List.getD_eq_getElem?_getD]
  have new : ∀ (l : List Nat) (p : Nat), (l ++ [p]).getD l.length 0 = p := fun l p => by
    rw [List.getD_eq_getElem?_getD, List.getElem?_append_right (Nat.le_refl _), Nat.sub_self]; rfl
  unfold useK
  rcases hadP_cases K' sg ch lf c with ⟨p, h1, h2, h3⟩ | h1
  · rw [h1, if_pos (by omega), Int.toNat_natCast]
    refine ⟨u1.aU (u1.2.2.1 p h2) (by omega), ?_, fun j j1 j2 => ?_, ⟨u4, by show kP K' ≤ _; omega⟩, by show (flat K').length ≤ _; omega, by show byN K' ≤ _; omega, u6', fun j hj => ?_, u8, u9, u10, u11, u12, u13, u14, u15⟩
    · show (kU K' ++ [p]).length = _
      rw [List.length_append, List.length_singleton]; omega
    · show (kU K' ++ [p]).getD j 0 ∈ flat K'
      by_cases z : j < (kU K').length
      · rw [old _ _ _ z]; exact u3 j j1 (by omega)
      · have e : j = (kU K').length := by omega
        rw [e, new]; exact h2
    · show (kU K' ++ [p]).getD j 0 = _
      rw [old _ _ _ (by omega)]; exact u7 j hj
  · rw [h1, if_neg (by omega)]
    have ow := u1.wP hc hP hl room
    have ef : flat (wrP K' room c) = flat K' ++ [kP K'] := by
      show flt (wrX (addP K' c) room (kD K') (kX K') (kP K')) = _
      rw [wrX_flt]; rfl
    have ek : kP (wrP K' room c) = kP K' + 1 := rfl
    have eb : byN (wrP K' room c) = byN K' + c.length := byN_addP K' c
    refine ⟨ow.aU (by rw [ek]; exact Nat.lt_succ_self _) (by show (kU K').length < _; omega), ?_, fun j j1 j2 => ?_, ⟨by show _ ≤ kP K' + 1; omega, by show kP K' + 1 ≤ _; omega⟩, ?_, ?_, ?_, fun j hj => ?_, fun p hp => ?_, fun p hp => ?_, u10, u11, u12, u13, u14, fun p hp => ?_⟩
    · show (kU K' ++ [kP K']).length = _
      rw [List.length_append, List.length_singleton]; omega
    · show (kU K' ++ [kP K']).getD j 0 ∈ flat (wrP K' room c)
      rw [ef]
      by_cases z : j < (kU K').length
      · rw [old _ _ _ z]; exact List.mem_append_left _ (u3 j j1 (by omega))
      · have e : j = (kU K').length := by omega
        rw [e, new]; simp
    · show (flat (wrP K' room c)).length ≤ _
      rw [ef, List.length_append, List.length_singleton]; omega
    · show byN (wrP K' room c) ≤ _
      rw [eb]; omega
    · show _ ≤ byN (wrP K' room c)
      rw [eb]; omega
    · show (kU K' ++ [kP K']).getD j 0 = _
      rw [old _ _ _ (by omega)]; exact u7 j hj
    · show (if p = kP K' then c else kC K' p) = _
      rw [if_neg (by omega)]; exact u8 p hp
    · show p ∈ flat (wrP K' room c)
      rw [ef]; exact List.mem_append_left _ (u9 p hp)
    · show (if p = kP K' then 0 else kS K' p) = _
      rw [if_neg (by omega)]; exact u15 p hp
theorem BgW.step {K0 K : KT} {W : Nat} (G : BgW K0 K W) (ok : KOk K) {room : Int} (hr : 60 ≤ room) (sg : Nat → Nat × Nat) (ch : List Int) (lf : Nat) {c : List Int} (hc : okC c) : BgW K0 (useK room sg ch lf K c) (W + c.length) ∧ (kX K).length ≤ (kX (useK room sg ch lf K c)).length := by
  obtain ⟨g1, g2⟩ := G
  unfold useK
  rcases hadP_cases K sg ch lf c with ⟨p, h1, h2, h3⟩ | h1
  · rw [h1, if_pos (by omega)]
    refine ⟨⟨g1, ?_⟩, Nat.le_refl _⟩
    rcases g2 with z | z
    · exact Or.inl z
    · right
      show 61 * (((kX K).length : Int) - ((kX K0).length : Int) - 1) + byt K ((kX K).getLastD (0, 0, [])) ≤ _
      omega
  · rw [h1, if_neg (by omega)]
    have ebx : ∀ b ∈ kX K, byt (addP K c) b = byt K b := fun b hb => byt_addP ok c (fun p hp => ok.2.2.1 p (List.mem_flatMap.mpr ⟨b, hb, hp⟩))
    have ep : pLen (addP K c) (kP K) = (c.length : Int) := by
      show ((if kP K = kP K then c else kC K (kP K)).length : Int) = _
      rw [if_pos rfl]
    have hc1 := hc.1
    show BgW K0 (addU (wrP K room c) (kP K)) (W + c.length) ∧ (kX K).length ≤ (wrX (addP K c) room (kD K) (kX K) (kP K)).length
    have hlen := wrX_len (addP K c) room (kD K) (kX K) (kP K)
    refine ⟨⟨by show _ ≤ (wrX (addP K c) room (kD K) (kX K) (kP K)).length; omega, ?_⟩, hlen.2⟩
    show (wrX (addP K c) room (kD K) (kX K) (kP K)).length = _ ∨ 61 * (((wrX (addP K c) room (kD K) (kX K) (kP K)).length : Int) - _ - 1) + byt (addP K c) ((wrX (addP K c) room (kD K) (kX K) (kP K)).getLastD (0, 0, [])) ≤ _
    unfold wrX
    have newl : byt (addP K c) ((kX K ++ [(kD K, 0, [kP K])]).getLastD (0, 0, [])) = (c.length : Int) := by
      rw [List.getLastD_concat]
      show ([kP K].map (pLen (addP K c))).sum = _
      rw [List.map_cons, List.map_nil, List.sum_cons, List.sum_nil, ep]; omega
    by_cases c1 : (kX K).length = 0
    · rw [if_pos (Or.inl c1)]
      right
      rw [newl, List.length_append, List.length_singleton]
      omega
    · have hs := last_split (kX K) c1
      have hm : (kX K).getLastD (0, 0, []) ∈ kX K := by rw [hs]; simp
      have e1 := ebx _ hm
      by_cases c2 : room < byt (addP K c) ((kX K).getLastD (0, 0, [])) + pLen (addP K c) (kP K)
      · rw [if_pos (Or.inr c2)]
        right
        rw [newl, List.length_append, List.length_singleton]
        rw [e1, ep] at c2
        have hb0 : 0 ≤ byt K ((kX K).getLastD (0, 0, [])) := (sum_rg (pLen K) 60 _ (fun p hp => by
          have := ok.2.2.2.2.2.2.2.2.2.1 p (ok.2.2.1 p (List.mem_flatMap.mpr ⟨_, hm, hp⟩))
          unfold pLen
          omega)).1
        rcases g2 with z | z
        · rw [z]; omega
        · omega
      · rw [if_neg (by rintro (z | z) <;> contradiction)]
        have el : ((kX K).dropLast ++ [(((kX K).getLastD (0, 0, [])).1, ((kX K).getLastD (0, 0, [])).2.1, ((kX K).getLastD (0, 0, [])).2.2 ++ [kP K])]).length = (kX K).length := by
          rw [List.length_append, List.length_dropLast, List.length_singleton]; omega
        rw [el]
        rcases g2 with z | z
        · exact Or.inl z
        · right
          rw [List.getLastD_concat]
          have e2 : byt (addP K c) (((kX K).getLastD (0, 0, [])).1, ((kX K).getLastD (0, 0, [])).2.1, ((kX K).getLastD (0, 0, [])).2.2 ++ [kP K]) = byt (addP K c) ((kX K).getLastD (0, 0, [])) + pLen (addP K c) (kP K) := by
            show ((((kX K).getLastD (0, 0, [])).2.2 ++ [kP K]).map (pLen (addP K c))).sum = ((((kX K).getLastD (0, 0, [])).2.2).map (pLen (addP K c))).sum + _
            rw [List.map_append, List.sum_append]
            simp
          rw [e2, e1, ep]
          omega
theorem BgW.le {K0 K : KT} {W : Nat} (G : BgW K0 K W) (ok : KOk K) (hW : W ≤ 400) : (kX K).length ≤ (kX K0).length + 14 := by
  obtain ⟨g1, g2⟩ := G
  rcases g2 with z | z
  · omega
  · by_cases c1 : (kX K).length = 0
    · omega
    · have hs := last_split (kX K) c1
      have hm : (kX K).getLastD (0, 0, []) ∈ kX K := by rw [hs]; simp
      have hb0 : 0 ≤ byt K ((kX K).getLastD (0, 0, [])) := (sum_rg (pLen K) 60 _ (fun p hp => by
        have := ok.2.2.2.2.2.2.2.2.2.1 p (ok.2.2.1 p (List.mem_flatMap.mpr ⟨_, hm, hp⟩))
        unfold pLen
        omega)).1
      omega
