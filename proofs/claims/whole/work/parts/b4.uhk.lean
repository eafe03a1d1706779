/-! ===== L2: unlike hooks of a segment ===== -/
def uhk (hk : Nat → Int) (c : Nat → List Int) (n : Nat) : List Nat := (List.range n).filter fun i => decide (hk i = 1) && unl hk c i i
theorem uhk_succ (hk : Nat → Int) (c : Nat → List Int) (n : Nat) : uhk hk c (n + 1) = uhk hk c n ++ (if hk n = 1 ∧ unl hk c n n = true then [n] else []) := by
  unfold uhk
  rw [List.range_succ, List.filter_append]
  congr 1
  rw [List.filter_cons]
  by_cases z : hk n = 1 ∧ unl hk c n n = true
  · rw [if_pos z, if_pos (by simpa using z)]; rfl
  · rw [if_neg z, if_neg (by simpa using z)]; rfl
theorem uhk_mem {hk : Nat → Int} {c : Nat → List Int} {n i : Nat} : i ∈ uhk hk c n ↔ i < n ∧ hk i = 1 ∧ unl hk c i i = true := by
  unfold uhk
  rw [List.mem_filter, List.mem_range]
  simp
theorem unl_iff {hk : Nat → Int} {c : Nat → List Int} {i n : Nat} : unl hk c i n = true ↔ ∀ o, o < n → ¬ (hk o = 1 ∧ c o = c i) := by
  unfold unl
  rw [List.all_eq_true]
  constructor
  · intro h o ho z
    have := h o (List.mem_range.mpr ho)
    simp [z.1, z.2] at this
  · intro h o ho
    have := h o (List.mem_range.mp ho)
    by_cases z : hk o = 1
    · have w : ¬ c o = c i := fun w => this ⟨z, w⟩
      simp [w]
    · simp [z]
theorem uhk_has {hk : Nat → Int} {c : Nat → List Int} {i : Nat} : unl hk c i i = true ↔ ∀ j ∈ uhk hk c i, c j ≠ c i := by
  constructor
  · intro h j hj e
    obtain ⟨j1, j2, j3⟩ := uhk_mem.mp hj
    exact unl_iff.mp h j j1 ⟨j2, e⟩
  · intro h
    have key : ∀ o, o < i → hk o = 1 → c o = c i → False := fun o => by
      induction o using Nat.strongRecOn with
      | ind o ih =>
        intro h1 h2 h3
        by_cases z : unl hk c o o = true
        · exact h o (uhk_mem.mpr ⟨h1, h2, z⟩) h3
        · have : ¬ ∀ o', o' < o → ¬ (hk o' = 1 ∧ c o' = c o) := fun w => z (unl_iff.mpr w)
          exact this (fun o' w1 w2 => ih o' w1 (by omega) w2.1 (w2.2.trans h3))
    exact unl_iff.mpr (fun o ho z => key o ho z.1 z.2)
