/-! ===== L2: what the index tells, when a hook is told ===== -/
theorem hkS_at {K : KT} {c : List Int} {i : Nat} (hi : i < (kH K).length) (h1 : kC K ((kH K).getD i (0, 0)).1 = c) (h2 : ∀ j, j < i → kC K ((kH K).getD j (0, 0)).1 ≠ c) : hkS K c = (((kH K).getD i (0, 0)).2 : Int) := by
  rcases hkI_cases K c with ⟨i', a1, a2, a3, a4, a5⟩ | ⟨b1, b2, b3⟩
  · have e : i' = i := by
      apply Classical.byContradiction
      intro z
      by_cases z1 : i' < i
      · exact h2 i' z1 a2
      · exact a3 i (by omega) h1
    rw [a5, e]
  · exact absurd h1 (b1 i hi)
theorem hkS_no {K : KT} {c : List Int} (h : ∀ j, j < (kH K).length → kC K ((kH K).getD j (0, 0)).1 ≠ c) : hkS K c = -1 := by
  rcases hkI_cases K c with ⟨i, a1, a2, a3, a4, a5⟩ | ⟨b1, b2, b3⟩
  · exact absurd a2 (h i a1)
  · exact b3
theorem getD_setP (l : List (Nat × Nat)) (i j : Nat) (x : Nat × Nat) (hi : i < l.length) : (l.set i x).getD j (0, 0) = if i = j then x else l.getD j (0, 0) := by
  rw [List.getD_eq_getElem?_getD, List.getElem?_set]
  by_cases z : i = j
  · rw [if_pos z, if_pos z, if_pos hi]; rfl
  · rw [if_neg z, if_neg z, ← List.getD_eq_getElem?_getD]
theorem getD_appP (l : List (Nat × Nat)) (j : Nat) (x : Nat × Nat) : (l ++ [x]).getD j (0, 0) = if j < l.length then l.getD j (0, 0) else if j = l.length then x else (0, 0) := by
  by_cases z : j < l.length
  · rw [if_pos z, List.getD_eq_getElem?_getD, List.getElem?_append_left z, ← List.getD_eq_getElem?_getD]
  · rw [if_neg z]
    by_cases z2 : j = l.length
    · rw [if_pos z2, z2, List.getD_eq_getElem?_getD, List.getElem?_append_right (Nat.le_refl _), Nat.sub_self]; rfl
    · rw [if_neg z2, List.getD_eq_getElem?_getD, List.getElem?_eq_none (by rw [List.length_append, List.length_singleton]; omega)]; rfl
theorem hkS_tel (K : KT) (seg p : Nat) (c : List Int) (hp : kC K p = c) (c' : List Int) : hkS (telK K seg p c) c' = if c' = c then (seg : Int) else hkS K c' := by
  rcases hkI_cases K c with ⟨i, a1, a2, a3, a4, a5⟩ | ⟨b1, b2, b3⟩
  · have e : telK K seg p c = setH K ((kH K).set i (((kH K).getD i (0, 0)).1, seg)) := by unfold telK; rw [a4, if_pos (by omega), Int.toNat_natCast]
    rw [e]
    have gg : ∀ j, ((kH K).set i (((kH K).getD i (0, 0)).1, seg)).getD j (0, 0) = if i = j then (((kH K).getD i (0, 0)).1, seg) else (kH K).getD j (0, 0) := fun j => getD_setP _ _ _ _ a1
    have g1 : ∀ j, (((kH K).set i (((kH K).getD i (0, 0)).1, seg)).getD j (0, 0)).1 = ((kH K).getD j (0, 0)).1 := fun j => by
      rw [gg]
      by_cases z : i = j
      · rw [if_pos z, z]
      · rw [if_neg z]
    have at' : ∀ (c2 : List Int) (j : Nat), j < (kH K).length → kC K ((kH K).getD j (0, 0)).1 = c2 → (∀ m, m < j → kC K ((kH K).getD m (0, 0)).1 ≠ c2) → hkS (setH K ((kH K).set i (((kH K).getD i (0, 0)).1, seg))) c2 = (((((kH K).set i (((kH K).getD i (0, 0)).1, seg)).getD j (0, 0)).2 : Nat) : Int) := fun c2 j y1 y2 y3 =>
      hkS_at (K := setH K ((kH K).set i (((kH K).getD i (0, 0)).1, seg))) (i := j) (by show j < ((kH K).set i _).length; rw [List.length_set]; exact y1) (by show kC K (((kH K).set i (((kH K).getD i (0, 0)).1, seg)).getD j (0, 0)).1 = c2; rw [g1]; exact y2) (fun m hm => by show kC K (((kH K).set i (((kH K).getD i (0, 0)).1, seg)).getD m (0, 0)).1 ≠ c2; rw [g1]; exact y3 m hm)
    by_cases z : c' = c
    · rw [if_pos z, z, at' c i a1 a2 a3, gg, if_pos rfl]
    · rw [if_neg z]
      rcases hkI_cases K c' with ⟨j, d1, d2, d3, d4, d5⟩ | ⟨d1, d2, d3⟩
      · have hne : ¬ i = j := fun w => z (by rw [← d2, ← w, a2])
        rw [d5, at' c' j d1 d2 d3, gg, if_neg hne]
      · rw [d3]
        exact hkS_no (K := setH K ((kH K).set i (((kH K).getD i (0, 0)).1, seg))) (fun j hj => by
          have hj' : j < ((kH K).set i (((kH K).getD i (0, 0)).1, seg)).length := hj
          rw [List.length_set] at hj'
          show kC K (((kH K).set i (((kH K).getD i (0, 0)).1, seg)).getD j (0, 0)).1 ≠ c'
          rw [g1]; exact d1 j hj')
  · have e : telK K seg p c = setH K (kH K ++ [(p, seg)]) := by unfold telK; rw [b2, if_neg (by omega)]
    rw [e]
    have gl : ∀ j, j < (kH K).length → (kH K ++ [(p, seg)]).getD j (0, 0) = (kH K).getD j (0, 0) := fun j hj => by rw [getD_appP, if_pos hj]
    have gn' : (kH K ++ [(p, seg)]).getD (kH K).length (0, 0) = (p, seg) := by rw [getD_appP, if_neg (Nat.lt_irrefl _), if_pos rfl]
    have ll : (kH K ++ [(p, seg)]).length = (kH K).length + 1 := by rw [List.length_append]; rfl
    by_cases z : c' = c
    · rw [if_pos z, z]
      have := hkS_at (K := setH K (kH K ++ [(p, seg)])) (c := c) (i := (kH K).length) (by show _ < (kH K ++ [(p, seg)]).length; omega) (by show kC K ((kH K ++ [(p, seg)]).getD (kH K).length (0, 0)).1 = c; rw [gn']; exact hp) (fun j hj => by show kC K ((kH K ++ [(p, seg)]).getD j (0, 0)).1 ≠ c; rw [gl j hj]; exact b1 j hj)
      rw [this]
      show ((((kH K ++ [(p, seg)]).getD (kH K).length (0, 0)).2 : Nat) : Int) = _
      rw [gn']
    · rw [if_neg z]
      rcases hkI_cases K c' with ⟨j, d1, d2, d3, d4, d5⟩ | ⟨d1, d2, d3⟩
      · have := hkS_at (K := setH K (kH K ++ [(p, seg)])) (c := c') (i := j) (by show j < (kH K ++ [(p, seg)]).length; omega) (by show kC K ((kH K ++ [(p, seg)]).getD j (0, 0)).1 = c'; rw [gl j d1]; exact d2) (fun m hm => by show kC K ((kH K ++ [(p, seg)]).getD m (0, 0)).1 ≠ c'; rw [gl m (by omega)]; exact d3 m hm)
        rw [this, d5]
        show ((((kH K ++ [(p, seg)]).getD j (0, 0)).2 : Nat) : Int) = _
        rw [gl j d1]
      · rw [d3]
        exact hkS_no (K := setH K (kH K ++ [(p, seg)])) (fun j hj => by
          have hj' : j < (kH K ++ [(p, seg)]).length := hj
          show kC K ((kH K ++ [(p, seg)]).getD j (0, 0)).1 ≠ c'
          by_cases w : j < (kH K).length
          · rw [gl j w]; exact d1 j w
          · have w2 : j = (kH K).length := by omega
            rw [w2, gn', hp]
            exact fun q => z q.symm)
theorem telK_len (K : KT) (seg p : Nat) (c : List Int) : ((kH (telK K seg p c)).length : Int) = (kH K).length + (if hkS K c = -1 then 1 else 0) := by
  unfold telK
  rcases hkI_cases K c with ⟨i, a1, a2, a3, a4, a5⟩ | ⟨b1, b2, b3⟩
  · rw [a4, a5, if_pos (by omega), if_neg (by omega)]
    show ((((kH K).set _ _).length : Nat) : Int) = _
    rw [List.length_set]; omega
  · rw [b2, b3, if_neg (by omega), if_pos rfl]
    show (((kH K ++ [(p, seg)]).length : Nat) : Int) = _
    rw [List.length_append]; rfl
theorem telK_same (K : KT) (seg p : Nat) (c : List Int) (h : hkS K c = seg) : telK K seg p c = K := by
  unfold telK
  rcases hkI_cases K c with ⟨i, a1, a2, a3, a4, a5⟩ | ⟨b1, b2, b3⟩
  · rw [a4, if_pos (by omega), Int.toNat_natCast]
    have e : ((kH K).getD i (0, 0)).2 = seg := by rw [a5] at h; omega
    have e2 : (kH K).set i (((kH K).getD i (0, 0)).1, seg) = kH K := by
      rw [← e]
      show (kH K).set i ((kH K).getD i (0, 0)) = _
      apply List.ext_getElem?
      intro j
      rw [List.getElem?_set]
      by_cases z : i = j
      · rw [if_pos z, if_pos a1, ← z, List.getD_eq_getElem?_getD, List.getElem?_eq_getElem a1]; rfl
      · rw [if_neg z]
    rw [e2]; rfl
  · rw [b3] at h; omega
theorem TdOk.set {TD : List Int} {cf : List (List Int)} {K : KT} (T : TdOk TD cf K) (hnd : cf.Nodup) {c : List Int} (hc : c ∈ cf) (seg p : Nat) (hp : kC K p = c) : TdOk (TD.set (cf.idxOf c) seg) cf (telK K seg p c) := by
  obtain ⟨t1, t2⟩ := T
  have hix : cf.idxOf c < cf.length := List.idxOf_lt_length_of_mem hc
  refine ⟨by rw [List.length_set]; exact t1, fun f hf => ?_⟩
  rw [hkS_tel K seg p c hp, List.getD_eq_getElem?_getD, List.getElem?_set]
  by_cases z : cf.idxOf c = f
  · have e : cf.getD f [] = c := by rw [← z, List.getD_eq_getElem?_getD, List.getElem?_eq_getElem hix, List.getElem_idxOf hix]; rfl
    rw [if_pos z, if_pos (by omega), if_pos e]; rfl
  · have e : ¬ cf.getD f [] = c := fun w => z (by
      have e1 : cf[f]? = some c := by rw [← w, List.getD_eq_getElem?_getD, List.getElem?_eq_getElem hf]; rfl
      exact (List.getElem?_inj hix hnd).mp (by rw [List.getElem?_eq_getElem hix, List.getElem_idxOf hix, e1]))
    rw [if_neg z, if_neg e, ← List.getD_eq_getElem?_getD]
    exact t2 f hf
