/-! ===== L2: champions: entries that tell nothing don't matter ===== -/
def nn (l : List Int) : List Int := l.filter fun x => decide (x ≠ -1)
theorem cnS_nn (s : Int) (hs : s ≠ -1) : ∀ l : List Int, cnS (nn l) s = cnS l s
  | [] => rfl
  | x :: l => by
    have ih := cnS_nn s hs l
    have e : cnS (x :: l) s = (if x = s then 1 else 0) + cnS l s := by unfold cnS; rw [List.map_cons, List.sum_cons]
    rw [e, ← ih]
    unfold nn
    rw [List.filter_cons]
    by_cases c : x = -1
    · rw [if_neg (by simpa using c), if_neg (fun z => hs (z.symm.trans c)), Int.zero_add]
    · rw [if_pos (by simpa using c)]
      unfold cnS
      rw [List.map_cons, List.sum_cons]
theorem fold_nn (cn : Int → Int) (ch : List Int) : ∀ (l : List Int) (b : Int), (nn l).foldl (cst cn ch) b = l.foldl (cst cn ch) b
  | [], _ => rfl
  | x :: l, b => by
    have ih := fold_nn cn ch l
    unfold nn at ih ⊢
    rw [List.filter_cons, List.foldl_cons]
    by_cases c : x = -1
    · rw [if_neg (by simpa using c), ih]
      congr 1
      unfold cst
      rw [if_pos (Or.inl c)]
    · rw [if_pos (by simpa using c), List.foldl_cons, ih]
theorem cst_cn {cn cn' : Int → Int} (h : ∀ s, s ≠ -1 → cn s = cn' s) (ch : List Int) (b s : Int) : cst cn ch b s = cst cn' ch b s := by
  unfold cst
  by_cases c : s = -1 ∨ s ∈ ch
  · rw [if_pos c, if_pos c]
  · rw [if_neg c, if_neg c]
    have hs : s ≠ -1 := fun z => c (Or.inl z)
    by_cases d : b = -1
    · rw [if_pos (Or.inl d), if_pos (Or.inl d)]
    · rw [h s hs, h b d]
theorem fold_cn {cn cn' : Int → Int} (h : ∀ s, s ≠ -1 → cn s = cn' s) (ch : List Int) : ∀ (l : List Int) (b : Int), l.foldl (cst cn ch) b = l.foldl (cst cn' ch) b
  | [], _ => rfl
  | x :: l, b => by rw [List.foldl_cons, List.foldl_cons, cst_cn h, fold_cn h ch l]
theorem nxC_nn (l ch : List Int) : nxC (nn l) ch = nxC l ch := by
  unfold nxC
  rw [fold_nn, fold_cn (fun s hs => cnS_nn s hs l)]
theorem chs_nn (l : List Int) : ∀ n, chs (nn l) n = chs l n
  | 0 => rfl
  | n + 1 => by
    unfold chs
    rw [chs_nn l n, nxC_nn]
theorem nn_map (f : Nat → Int) (p : Nat → Bool) (l : List Nat) : nn (l.map fun i => if p i = true then f i else -1) = nn ((l.filter p).map f) := by
  induction l with
  | nil => rfl
  | cons x l ih =>
    rw [List.map_cons, List.filter_cons]
    by_cases c : p x = true
    · rw [if_pos c, if_pos c, List.map_cons]
      unfold nn at ih ⊢
      rw [List.filter_cons, List.filter_cons, ih]
    · rw [if_neg c, if_neg c, ← ih]
      unfold nn
      rw [List.filter_cons, if_neg (by simp)]
/-- both sides' champions -/
theorem chs_uhk (K : KT) (hk : Nat → Int) (c : Nat → List Int) (n m : Nat) : chs ((List.range n).map (tfV K hk c)) m = chs ((uhk hk c n).map fun j => hkS K (c j)) m := by
  rw [← chs_nn, ← chs_nn ((uhk hk c n).map fun j => hkS K (c j))]
  congr 1
  unfold uhk
  rw [← nn_map]
  congr 1
  refine List.map_congr_left (fun i _ => ?_)
  unfold tfV
  by_cases z : hk i = 1 ∧ unl hk c i i = true
  · rw [if_pos z, if_pos (by simpa using z)]
  · rw [if_neg z, if_neg (by simpa using z)]
