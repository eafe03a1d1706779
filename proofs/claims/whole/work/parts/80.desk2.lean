/-! ===== L2: the desk from visit to visit ===== -/
/-- boxes, when they were used, how many were fetched; ahead of the i-th visit -/
def dst (far : Int) (V : List Int) (pl : Nat) (plan : Int) : Nat → List Int × List Int × Int
  | 0 => ([], [], 0)
  | i + 1 => if V.getD i 0 ∈ (dst far V pl plan i).1 then ((dst far V pl plan i).1, (dst far V pl plan i).2.1.set ((dst far V pl plan i).1.idxOf (V.getD i 0)) (i : Int), (dst far V pl plan i).2.2)
    else if (dst far V pl plan i).1.length < pl then ((dst far V pl plan i).1 ++ [V.getD i 0], (dst far V pl plan i).2.1 ++ [(i : Int)], (dst far V pl plan i).2.2 + 1)
    else ((dst far V pl plan i).1.set (clr far V (dst far V pl plan i).1 (dst far V pl plan i).2.1 plan i ((dst far V pl plan i).1.length - 1)) (V.getD i 0), (dst far V pl plan i).2.1.set (clr far V (dst far V pl plan i).1 (dst far V pl plan i).2.1 plan i ((dst far V pl plan i).1.length - 1)) (i : Int), (dst far V pl plan i).2.2 + 1)
def DOk (pl : Nat) (i : Nat) (s : List Int × List Int × Int) : Prop := s.2.1.length = s.1.length ∧ s.1.length ≤ pl ∧ (∀ x ∈ s.1, 0 ≤ x ∧ x ≤ 300) ∧ (∀ x ∈ s.2.1, 0 ≤ x ∧ x ≤ i) ∧ s.1.Nodup ∧ 0 ≤ s.2.2 ∧ s.2.2 ≤ i
theorem set_mem {l : List Int} {k : Nat} {v x : Int} (h : x ∈ l.set k v) : x ∈ l ∨ x = v := by
  rcases List.mem_or_eq_of_mem_set h with h | h
  · exact Or.inl h
  · exact Or.inr h
theorem nodup_set {l : List Int} (hn : l.Nodup) {v : Int} (hv : v ∉ l) (k : Nat) : (l.set k v).Nodup := by
  refine List.pairwise_iff_getElem.mpr fun i j hi hj hlt e => ?_
  rw [List.length_set] at hi hj
  rw [List.getElem_set, List.getElem_set] at e
  by_cases h1 : k = i
  · rw [if_pos h1, if_neg (by omega)] at e
    exact hv (by rw [e]; exact List.getElem_mem _)
  · rw [if_neg h1] at e
    by_cases h2 : k = j
    · rw [if_pos h2] at e
      exact hv (by rw [← e]; exact List.getElem_mem _)
    · rw [if_neg h2] at e
      exact List.pairwise_iff_getElem.mp hn i j hi hj hlt e
theorem dst_ok (far : Int) (V : List Int) (pl : Nat) (plan : Int) (hr : ∀ x ∈ V, 0 ≤ x ∧ x ≤ 300) : ∀ i, i ≤ V.length → DOk pl i (dst far V pl plan i)
  | 0, _ => ⟨rfl, Nat.zero_le _, fun x hx => (List.not_mem_nil hx).elim, fun x hx => (List.not_mem_nil hx).elim, List.nodup_nil, Int.le_refl _, Int.le_refl _⟩
  | i + 1, hi => by
    obtain ⟨h1, h2, h3, h4, h5, h6, h7⟩ := dst_ok far V pl plan hr i (by omega)
    have hv := getD_rgI hr (show i < V.length by omega)
    unfold dst
    generalize dst far V pl plan i = s at *
    by_cases c1 : V.getD i 0 ∈ s.1
    · rw [if_pos c1]
      refine ⟨by rw [List.length_set]; exact h1, h2, h3, fun x hx => ?_, h5, h6, by show s.2.2 ≤ _; omega⟩
      rcases set_mem hx with h | h
      · have := h4 x h; omega
      · omega
    · rw [if_neg c1]
      by_cases c2 : s.1.length < pl
      · rw [if_pos c2]
        refine ⟨by rw [List.length_append, List.length_append, h1]; rfl, by rw [List.length_append]; exact c2, fun x hx => ?_, fun x hx => ?_, ?_, by show 0 ≤ s.2.2 + 1; omega, by show s.2.2 + 1 ≤ _; omega⟩
        · rcases List.mem_append.mp hx with h | h
          · exact h3 x h
          · have : x = V.getD i 0 := by simpa using h
            rw [this]; exact hv
        · rcases List.mem_append.mp hx with h | h
          · have := h4 x h; omega
          · have : x = (i : Int) := by simpa using h
            omega
        · refine List.pairwise_append.mpr ⟨h5, by simp, fun a ha b hb e => ?_⟩
          have : b = V.getD i 0 := by simpa using hb
          rw [e, this] at ha
          exact c1 ha
      · rw [if_neg c2]
        refine ⟨by rw [List.length_set, List.length_set]; exact h1, by rw [List.length_set]; exact h2, fun x hx => ?_, fun x hx => ?_, nodup_set h5 c1 _, by show 0 ≤ s.2.2 + 1; omega, by show s.2.2 + 1 ≤ _; omega⟩
        · rcases set_mem hx with h | h
          · exact h3 x h
          · rw [h]; exact hv
        · rcases set_mem hx with h | h
          · have := h4 x h; omega
          · omega
