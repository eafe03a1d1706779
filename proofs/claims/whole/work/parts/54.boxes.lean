/-! ===== L2: boxes ===== -/
def fst (X : List (Int × Int × List Nat)) (j : Nat) : Nat := ((X.take j).flatMap fun b => b.2.2).length
def itm (X : List (Int × Int × List Nat)) (j : Nat) : List Nat := (X.getD j (0, 0, [])).2.2
theorem fst_zero (X : List (Int × Int × List Nat)) : fst X 0 = 0 := rfl
theorem fst_cons (b : Int × Int × List Nat) (X : List (Int × Int × List Nat)) (j : Nat) : fst (b :: X) (j + 1) = b.2.2.length + fst X j := by
  unfold fst
  rw [List.take_succ_cons, List.flatMap_cons, List.length_append]
theorem itm_cons (b : Int × Int × List Nat) (X : List (Int × Int × List Nat)) (j : Nat) : itm (b :: X) (j + 1) = itm X j := rfl
theorem fst_succ : ∀ (X : List (Int × Int × List Nat)) (j : Nat), j < X.length → fst X (j + 1) = fst X j + (itm X j).length
  | [], j, h => by simp at h
  | b :: X, 0, _ => by rw [fst_cons, fst_zero, fst_zero, Nat.zero_add, Nat.add_zero]; rfl
  | b :: X, j + 1, h => by rw [fst_cons, fst_cons, itm_cons, fst_succ X j (by simpa using h), Nat.add_assoc]
theorem fst_all (X : List (Int × Int × List Nat)) : fst X X.length = (X.flatMap fun b => b.2.2).length := by unfold fst; rw [List.take_length]
theorem fst_le : ∀ (X : List (Int × Int × List Nat)) (j : Nat), fst X j ≤ (X.flatMap fun b => b.2.2).length
  | [], j => by simp [fst]
  | b :: X, 0 => by rw [fst_zero]; exact Nat.zero_le _
  | b :: X, j + 1 => by rw [fst_cons, List.flatMap_cons, List.length_append]; have := fst_le X j; omega
theorem box_flat : ∀ (X : List (Int × Int × List Nat)) (j i : Nat), i < (itm X j).length → (X.flatMap fun b => b.2.2)[fst X j + i]? = (itm X j)[i]?
  | [], j, i, h => by simp [itm] at h
  | b :: X, 0, i, h => by
    rw [fst_zero, Nat.zero_add, List.flatMap_cons, List.getElem?_append_left (by exact h)]; rfl
  | b :: X, j + 1, i, h => by
    rw [fst_cons, itm_cons, List.flatMap_cons, Nat.add_assoc, List.getElem?_append_right (by omega), Nat.add_sub_cancel_left]
    exact box_flat X j i h
theorem box_at : ∀ (X : List (Int × Int × List Nat)) (j0 j i : Nat), i < (itm X j).length → (bxAtL X j0)[fst X j + i]? = some ((j0 + j : Nat) : Int)
  | [], j0, j, i, h => by simp [itm] at h
  | b :: X, j0, 0, i, h => by
    have h' : i < b.2.2.length := h
    rw [fst_zero, Nat.zero_add]
    unfold bxAtL
    rw [List.getElem?_append_left (by rw [List.length_replicate]; exact h'), List.getElem?_replicate, if_pos h']; rfl
  | b :: X, j0, j + 1, i, h => by
    unfold bxAtL
    rw [fst_cons, Nat.add_assoc, List.getElem?_append_right (by rw [List.length_replicate]; omega), List.length_replicate, Nat.add_sub_cancel_left, box_at X (j0 + 1) j i h]
    congr 2
    omega
theorem bxAtL_len : ∀ (X : List (Int × Int × List Nat)) (j0 : Nat), (bxAtL X j0).length = (X.flatMap fun b => b.2.2).length
  | [], _ => rfl
  | b :: X, j0 => by
    unfold bxAtL
    rw [List.length_append, List.length_replicate, List.flatMap_cons, List.length_append, bxAtL_len X (j0 + 1)]
theorem box_find : ∀ (X : List (Int × Int × List Nat)) (i : Nat), i < (X.flatMap fun b => b.2.2).length → ∃ j k, j < X.length ∧ k < (itm X j).length ∧ i = fst X j + k
  | [], i, h => by simp at h
  | b :: X, i, h => by
    by_cases h1 : i < b.2.2.length
    · exact ⟨0, i, by simp, h1, by rw [fst_zero, Nat.zero_add]⟩
    · rw [List.flatMap_cons, List.length_append] at h
      obtain ⟨j, k, h2, h3, h4⟩ := box_find X (i - b.2.2.length) (by omega)
      exact ⟨j + 1, k, by simpa using h2, h3, by rw [fst_cons]; omega⟩
theorem flat_def (K : KT) : flat K = (kX K).flatMap fun b => b.2.2 := rfl
/-- where a stored piece lies -/
theorem box_of {K : KT} (ok : KOk K) {p : Nat} (hp : p ∈ flat K) : ∃ j i, j < (kX K).length ∧ i < (itm (kX K) j).length ∧ (itm (kX K) j).getD i 0 = p ∧ (flat K).idxOf p = fst (kX K) j + i ∧ bxOf K p = (j : Int) := by
  have hlt := idx_lt hp
  obtain ⟨j, i, h1, h2, h3⟩ := box_find (kX K) ((flat K).idxOf p) hlt
  have h4 := box_flat (kX K) j i h2
  rw [← h3] at h4
  have h5 : (flat K)[(flat K).idxOf p]? = some p := by rw [List.getElem?_eq_getElem hlt, List.getElem_idxOf hlt]
  have h6 : (itm (kX K) j)[i]? = some p := by rw [← h4]; exact h5
  refine ⟨j, i, h1, h2, by rw [List.getD_eq_getElem?_getD, h6]; rfl, h3, ?_⟩
  unfold bxOf bxAt
  rw [gt_nat, List.getD_eq_getElem?_getD, h3, box_at (kX K) 0 j i h2, Nat.zero_add]; rfl
theorem itm_mem {K : KT} {j i : Nat} (hi : i < (itm (kX K) j).length) : (itm (kX K) j).getD i 0 ∈ flat K := by
  have h := box_flat (kX K) j i hi
  rw [List.getElem?_eq_getElem hi] at h
  rw [List.getD_eq_getElem?_getD, List.getElem?_eq_getElem hi]
  exact List.mem_of_getElem? h
/-- a box holds what it holds once -/
theorem box_uni {K : KT} (ok : KOk K) {j i : Nat} (hi : i < (itm (kX K) j).length) : (flat K).idxOf ((itm (kX K) j).getD i 0) = fst (kX K) j + i ∧ bxOf K ((itm (kX K) j).getD i 0) = (j : Int) := by
  have h := box_flat (kX K) j i hi
  rw [List.getElem?_eq_getElem hi] at h
  obtain ⟨hlt, h1⟩ := List.getElem?_eq_some_iff.mp h
  have e : (itm (kX K) j).getD i 0 = (flat K)[fst (kX K) j + i]'hlt := by
    rw [List.getD_eq_getElem?_getD, List.getElem?_eq_getElem hi]; exact h1.symm
  have h2 : (flat K).idxOf ((itm (kX K) j).getD i 0) = fst (kX K) j + i := by rw [e]; exact ok.2.1.idxOf_getElem _ hlt
  refine ⟨h2, ?_⟩
  unfold bxOf bxAt
  rw [gt_nat, List.getD_eq_getElem?_getD, h2, box_at (kX K) 0 j i hi, Nat.zero_add]; rfl
/-- the reference's box of a piece: 0 when it is no more -/
theorem KM.box {h : AH} {K : KT} (ok : KOk K) (R : KM h K) {p : Nat} (hp : p < kP K) : hI h 109 (798 + p) = iI (if p ∈ flat K then bxOf K p + 1 else 0) := by
  by_cases hm : p ∈ flat K
  · rw [if_pos hm]
    obtain ⟨j, i, h1, h2, h3, h4, h5⟩ := box_of ok hm
    have := ((R.2.2.2.2.2.2.2.2.1 j h1).2.2 i h2).1
    have h3' : ((kX K).getD j (0, 0, [])).2.2.getD i 0 = p := h3
    rw [h3'] at this
    rw [this, h5]; rfl
  · rw [if_neg hm]
    exact (R.2.2.2.2.2.2.2.2.2.1 p hp).1 hm
theorem bxOf_rg {K : KT} (ok : KOk K) {p : Nat} (hp : p ∈ flat K) : 0 ≤ bxOf K p ∧ bxOf K p < (kX K).length := by
  obtain ⟨j, i, h1, h2, h3, h4, h5⟩ := box_of ok hp
  rw [h5]; omega
theorem kX_len {K : KT} (ok : KOk K) : (kX K).length ≤ (flat K).length := by
  have key : ∀ X : List (Int × Int × List Nat), (∀ b ∈ X, b.2.2 ≠ []) → X.length ≤ (X.flatMap fun b => b.2.2).length := by
    intro X
    induction X with
    | nil => intro _; exact Nat.le_refl _
    | cons b X ih =>
      intro hX
      rw [List.flatMap_cons, List.length_append, List.length_cons]
      have h1 := ih (fun c hc => hX c (List.mem_cons_of_mem _ hc))
      have h2 : b.2.2.length ≠ 0 := fun z => hX b List.mem_cons_self (List.eq_nil_of_length_eq_zero z)
      omega
  exact key _ fun b hb => (ok.2.2.2.2.1 b hb).1
