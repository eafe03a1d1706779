/-! ===== L2: the text's tokens ===== -/
def ltt (x : Int) : Bool := decide (97 ≤ x ∧ x ≤ 122)
def dgt (x : Int) : Bool := decide (48 ≤ x ∧ x ≤ 57)
def blk (x : Int) : Bool := decide (x = 32 ∨ x = 10)
theorem ltt_iff {x : Int} : ltt x = true ↔ 97 ≤ x ∧ x ≤ 122 := by unfold ltt; simp
theorem dgt_iff {x : Int} : dgt x = true ↔ 48 ≤ x ∧ x ≤ 57 := by unfold dgt; simp
theorem blk_iff {x : Int} : blk x = true ↔ x = 32 ∨ x = 10 := by unfold blk; simp
/-- where a run of such bytes from p on ends -/
def rn (q : Int → Bool) (T : List Int) (p : Nat) : Nat := p + ((T.drop p).takeWhile q).length
theorem tw_spec (q : Int → Bool) (hq : q (-1) = false) : ∀ l : List Int, (l.takeWhile q).length ≤ l.length ∧ (∀ i, i < (l.takeWhile q).length → q (l.getD i (-1)) = true) ∧ q (l.getD (l.takeWhile q).length (-1)) = false ∧ ∀ i, i < (l.takeWhile q).length → (l.takeWhile q).getD i (-1) = l.getD i (-1)
  | [] => ⟨Nat.le_refl _, fun i hi => absurd hi (Nat.not_lt_zero _), hq, fun i hi => absurd hi (Nat.not_lt_zero _)⟩
  | x :: l => by
    obtain ⟨a1, a2, a3, a4⟩ := tw_spec q hq l
    rw [List.takeWhile_cons]
    by_cases c : q x = true
    · rw [if_pos c]
      refine ⟨by rw [List.length_cons, List.length_cons]; omega, fun i hi => ?_, a3, fun i hi => ?_⟩
      · cases i with
        | zero => exact c
        | succ i => rw [List.length_cons] at hi; exact a2 i (by omega)
      · cases i with
        | zero => rfl
        | succ i => rw [List.length_cons] at hi; exact a4 i (by omega)
    · rw [if_neg c]
      exact ⟨Nat.zero_le _, fun i hi => absurd hi (Nat.not_lt_zero _), by simpa using c, fun i hi => absurd hi (Nat.not_lt_zero _)⟩
theorem drop_getD (T : List Int) (p i : Nat) (d : Int) : (T.drop p).getD i d = T.getD (p + i) d := by
  rw [List.getD_eq_getElem?_getD, List.getElem?_drop, ← List.getD_eq_getElem?_getD]
theorem rn_spec {q : Int → Bool} (hq : q (-1) = false) (T : List Int) (p : Nat) : p ≤ rn q T p ∧ (p ≤ T.length → rn q T p ≤ T.length) ∧ (∀ i, p ≤ i → i < rn q T p → q (T.getD i (-1)) = true) ∧ q (T.getD (rn q T p) (-1)) = false := by
  obtain ⟨a1, a2, a3, a4⟩ := tw_spec q hq (T.drop p)
  rw [List.length_drop] at a1
  unfold rn
  refine ⟨by omega, fun h => by omega, fun i h1 h2 => ?_, ?_⟩
  · have := a2 (i - p) (by omega)
    rw [drop_getD] at this
    have e : p + (i - p) = i := by omega
    rw [e] at this
    exact this
  · rw [drop_getD] at a3; exact a3
theorem rn_uni {q : Int → Bool} (hq : q (-1) = false) {T : List Int} {p e : Nat} (h1 : p ≤ e) (h2 : ∀ i, p ≤ i → i < e → q (T.getD i (-1)) = true) (h3 : q (T.getD e (-1)) = false) : rn q T p = e := by
  obtain ⟨a1, a2, a3, a4⟩ := rn_spec hq T p
  apply Classical.byContradiction
  intro z
  by_cases z1 : rn q T p < e
  · rw [h2 _ a1 z1] at a4; cases a4
  · rw [a3 e h1 (by omega)] at h3; cases h3
def wrdL : List (List Int) := [[98,111,120],[119,105,110,100,111,119],[108,101,97,115,116],[110,111,114,109,97,108],[109,111,115,116],[115,101,103,115],[99,104,97,109,112,115],[100,101,115,107],[107,101,101,112],[114,111,116],[98,111,114,100,101,114],[104,111,111,107],[99,108,101,97,110],[100,97,121],[115,117,109],[108,101,110,103,116,104],[98,121,116,101],[112,114,105,110,116],[112,108,97,99,101],[108,105,118,101],[100,101,97,100],[97,103,101],[109,105,110],[109,97,120],[105,102],[110,111,116],[97,108,108],[97,110,100],[111,114]]
def wix (l : List Int) : Int := if l ∈ wrdL then (wrdL.idxOf l : Int) else -1
def nmv (l : List Int) : Int := l.foldl (fun c x => 10 * c + x - 48) 0
/-- the token that begins at p -/
def tkI (T : List Int) (p : Nat) : Int × Int × Int :=
  if T.length ≤ p then (0, 0, (T.length : Int)) else
  if ltt (T.getD p (-1)) = true then (if p ≠ 0 ∧ dgt (T.getD (p - 1) (-1)) = true then (4, (p : Int), (p : Int)) else if 6 < rn ltt T p - p then (4, ((p + 6 : Nat) : Int), (p : Int)) else (1, wix ((T.drop p).takeWhile ltt), (p : Int))) else
  if dgt (T.getD p (-1)) = true then (if p ≠ 0 ∧ ltt (T.getD (p - 1) (-1)) = true then (4, (p : Int), (p : Int)) else if 4 < rn dgt T p - p then (4, ((p + 4 : Nat) : Int), (p : Int)) else (2, nmv ((T.drop p).takeWhile dgt), (p : Int))) else
  (3, T.getD p (-1), (p : Int))
def tkE (T : List Int) (p : Nat) : Nat := if T.length ≤ p then p else if ltt (T.getD p (-1)) = true then rn ltt T p else if dgt (T.getD p (-1)) = true then rn dgt T p else p + 1
def tkP (T : List Int) : Nat → Nat
  | 0 => rn blk T 0
  | k + 1 => rn blk T (tkE T (tkP T k))
def tkT (T : List Int) (k : Nat) : Int × Int × Int := tkI T (tkP T k)
theorem ltt_m : ltt (-1) = false := by decide
theorem dgt_m : dgt (-1) = false := by decide
theorem blk_m : blk (-1) = false := by decide
theorem rn_gt {q : Int → Bool} (hq : q (-1) = false) {T : List Int} {p : Nat} (h : q (T.getD p (-1)) = true) : p < rn q T p := by
  obtain ⟨a1, a2, a3, a4⟩ := rn_spec hq T p
  by_cases z : rn q T p = p
  · rw [z, h] at a4; cases a4
  · omega
theorem tkE_gt {T : List Int} {p : Nat} (h : p < T.length) : p < tkE T p ∧ tkE T p ≤ T.length := by
  unfold tkE
  rw [if_neg (by omega)]
  split
  · rename_i c; exact ⟨rn_gt ltt_m c, (rn_spec ltt_m T p).2.1 (by omega)⟩
  · split
    · rename_i c; exact ⟨rn_gt dgt_m c, (rn_spec dgt_m T p).2.1 (by omega)⟩
    · omega
theorem tkP_le (T : List Int) : ∀ k, tkP T k ≤ T.length
  | 0 => (rn_spec blk_m T 0).2.1 (Nat.zero_le _)
  | k + 1 => by
    refine (rn_spec blk_m T _).2.1 ?_
    have := tkP_le T k
    by_cases z : tkP T k < T.length
    · exact (tkE_gt z).2
    · unfold tkE; rw [if_pos (by omega)]; exact this
theorem tkP_lt (T : List Int) (k : Nat) (h : tkP T k < T.length) : tkP T k < tkP T (k + 1) := Nat.lt_of_lt_of_le (tkE_gt h).1 (rn_spec blk_m T _).1
theorem tkI_kd {T : List Int} {p : Nat} : ((tkI T p).1 = 0 ↔ T.length ≤ p) ∧ ((tkI T p).1 = 0 ∨ (tkI T p).1 = 1 ∨ (tkI T p).1 = 2 ∨ (tkI T p).1 = 3 ∨ (tkI T p).1 = 4) := by
  unfold tkI
  refine ⟨?_, ?_⟩
  · by_cases z : T.length ≤ p
    · rw [if_pos z]; exact ⟨fun _ => z, fun _ => rfl⟩
    · rw [if_neg z]
      refine ⟨fun h => ?_, fun h => absurd h z⟩
      repeat' split at h
      all_goals exact absurd h (by simp)
  · repeat' split
    all_goals simp
/-- there is a last token -/
theorem tk_last (T : List Int) : ∃ m, m ≤ T.length ∧ TkL (tkT T) m := by
  have key : ∀ n, (∃ m, m ≤ n ∧ TkL (tkT T) m) ∨ ((∀ k, k ≤ n → (tkT T k).1 = 1 ∨ (tkT T k).1 = 2 ∨ (tkT T k).1 = 3) ∧ n < tkP T (n + 1)) := by
    intro n
    induction n with
    | zero =>
      by_cases z : (tkT T 0).1 = 0 ∨ (tkT T 0).1 = 4
      · exact Or.inl ⟨0, Nat.le_refl _, z, fun k hk => absurd hk (Nat.not_lt_zero _)⟩
      · right
        have a := (tkI_kd (T := T) (p := tkP T 0)).2
        have b := (tkI_kd (T := T) (p := tkP T 0)).1
        have z' : ¬ ((tkI T (tkP T 0)).1 = 0 ∨ (tkI T (tkP T 0)).1 = 4) := z
        have hlt : tkP T 0 < T.length := by
          apply Classical.byContradiction
          intro y
          exact z' (Or.inl (b.mpr (by omega)))
        have := tkP_lt T 0 hlt
        refine ⟨fun k hk => ?_, by omega⟩
        have : k = 0 := by omega
        subst this
        show (tkI T (tkP T 0)).1 = 1 ∨ (tkI T (tkP T 0)).1 = 2 ∨ (tkI T (tkP T 0)).1 = 3
        omega
    | succ n ih =>
      rcases ih with ⟨m, h1, h2⟩ | ⟨h1, h2⟩
      · exact Or.inl ⟨m, by omega, h2⟩
      · by_cases z : (tkT T (n + 1)).1 = 0 ∨ (tkT T (n + 1)).1 = 4
        · exact Or.inl ⟨n + 1, Nat.le_refl _, z, fun k hk => h1 k (by omega)⟩
        · right
          have a := (tkI_kd (T := T) (p := tkP T (n + 1))).2
          have b := (tkI_kd (T := T) (p := tkP T (n + 1))).1
          have z' : ¬ ((tkI T (tkP T (n + 1))).1 = 0 ∨ (tkI T (tkP T (n + 1))).1 = 4) := z
          have hlt : tkP T (n + 1) < T.length := by
            apply Classical.byContradiction
            intro y
            exact z' (Or.inl (b.mpr (by omega)))
          have := tkP_lt T (n + 1) hlt
          refine ⟨fun k hk => ?_, by omega⟩
          by_cases y : k ≤ n
          · exact h1 k y
          · have : k = n + 1 := by omega
            subst this
            show (tkI T (tkP T (n + 1))).1 = 1 ∨ (tkI T (tkP T (n + 1))).1 = 2 ∨ (tkI T (tkP T (n + 1))).1 = 3
            omega
  rcases key T.length with ⟨m, h1, h2⟩ | ⟨h1, h2⟩
  · exact ⟨m, h1, h2⟩
  · have := tkP_le T (T.length + 1)
    omega
theorem nmv_rg : ∀ l : List Int, (∀ x ∈ l, dgt x = true) → ∀ (c : Int) (n : Nat), 0 ≤ c → c < ((10 ^ n : Nat) : Int) → 0 ≤ l.foldl (fun c x => 10 * c + x - 48) c ∧ l.foldl (fun c x => 10 * c + x - 48) c < ((10 ^ (n + l.length) : Nat) : Int)
  | [], _, c, n, h1, h2 => ⟨h1, h2⟩
  | x :: l, h, c, n, h1, h2 => by
    have hx := dgt_iff.mp (h x List.mem_cons_self)
    have := nmv_rg l (fun y hy => h y (List.mem_cons_of_mem _ hy)) (10 * c + x - 48) (n + 1) (by omega) (by
      rw [Nat.pow_succ]
      generalize 10 ^ n = X at *
      omega)
    rw [List.foldl_cons, List.length_cons]
    have e : n + (l.length + 1) = n + 1 + l.length := by omega
    rw [e]; exact this
theorem tw_all (q : Int → Bool) (l : List Int) : ∀ x ∈ l.takeWhile q, q x = true := by
  induction l with
  | nil => exact fun x hx => absurd hx (by simp)
  | cons y l ih =>
    rw [List.takeWhile_cons]
    split
    · rename_i c
      intro x hx
      rcases List.mem_cons.mp hx with z | z
      · rw [z]; exact c
      · exact ih x z
    · exact fun x hx => absurd hx (by simp)
theorem tk_num0 {T : List Int} {p : Nat} (c5 : ¬ 4 < rn dgt T p - p) : 0 ≤ nmv ((T.drop p).takeWhile dgt) ∧ nmv ((T.drop p).takeWhile dgt) ≤ 9999 := by
  have hl : ((T.drop p).takeWhile dgt).length ≤ 4 := by unfold rn at c5; omega
  have := nmv_rg ((T.drop p).takeWhile dgt) (tw_all dgt _) 0 0 (by decide) (by decide)
  have h2 : (10 : Nat) ^ (0 + ((T.drop p).takeWhile dgt).length) ≤ 10 ^ 4 := Nat.pow_le_pow_right (by decide) (by omega)
  have h3 : (10 : Nat) ^ 4 = 10000 := by decide
  rw [h3] at h2
  generalize (10 : Nat) ^ (0 + ((T.drop p).takeWhile dgt).length) = X at *
  unfold nmv
  omega
theorem tk_num (T : List Int) (k : Nat) (h : (tkT T k).1 = 2) : 0 ≤ (tkT T k).2.1 ∧ (tkT T k).2.1 ≤ 9999 := by
  unfold tkT at h ⊢
  generalize tkP T k = p at *
  unfold tkI at h ⊢
  by_cases c1 : T.length ≤ p
  · rw [if_pos c1] at h; simp at h
  rw [if_neg c1] at h ⊢
  by_cases c2 : ltt (T.getD p (-1)) = true
  · rw [if_pos c2] at h
    repeat' split at h
    all_goals simp at h
  rw [if_neg c2] at h ⊢
  by_cases c3 : dgt (T.getD p (-1)) = true
  · rw [if_pos c3] at h ⊢
    by_cases c4 : p ≠ 0 ∧ ltt (T.getD (p - 1) (-1)) = true
    · rw [if_pos c4] at h; simp at h
    rw [if_neg c4] at h ⊢
    by_cases c5 : 4 < rn dgt T p - p
    · rw [if_pos c5] at h; simp at h
    rw [if_neg c5]
    exact tk_num0 c5
  · rw [if_neg c3] at h; simp at h
