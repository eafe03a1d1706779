/-! ===== L2: words by their letters ===== -/
def pkv (B d : Int) (l : List Int) : Int := l.foldl (fun c x => c * B + (x - d)) 0
def pkr (B d : Int) : List Int → Int
  | [] => 0
  | x :: r => pkr B d r * B + (x - d)
theorem pkv_rev (B d : Int) (l : List Int) : pkv B d l = pkr B d l.reverse := by
  have key : ∀ (l : List Int) (r : List Int), l.foldl (fun c x => c * B + (x - d)) (pkr B d r) = pkr B d (l.reverse ++ r) := by
    intro l
    induction l with
    | nil => exact fun r => rfl
    | cons x l ih =>
      intro r
      rw [List.foldl_cons, List.reverse_cons, List.append_assoc]
      exact ih (x :: r)
  have := key l []
  rw [List.append_nil] at this
  exact this
theorem pkr_pos {B d : Int} (hB : 0 < B) : ∀ r : List Int, (∀ x ∈ r, 1 ≤ x - d ∧ x - d < B) → 0 ≤ pkr B d r
  | [], _ => Int.le_refl _
  | x :: r, h => by
    have h1 := pkr_pos hB r (fun y hy => h y (List.mem_cons_of_mem _ hy))
    have h2 := h x List.mem_cons_self
    have h3 : 0 ≤ pkr B d r * B := Int.mul_nonneg h1 (Int.le_of_lt hB)
    show 0 ≤ pkr B d r * B + (x - d)
    omega
theorem pkr_inj {B d : Int} (hB : 0 < B) : ∀ r r' : List Int, (∀ x ∈ r, 1 ≤ x - d ∧ x - d < B) → (∀ x ∈ r', 1 ≤ x - d ∧ x - d < B) → pkr B d r = pkr B d r' → r = r'
  | [], [], _, _, _ => rfl
  | [], y :: r', _, h', e => by
    have h1 := pkr_pos hB r' (fun z hz => h' z (List.mem_cons_of_mem _ hz))
    have h2 := h' y List.mem_cons_self
    have h3 : 0 ≤ pkr B d r' * B := Int.mul_nonneg h1 (Int.le_of_lt hB)
    have e' : 0 = pkr B d r' * B + (y - d) := e
    omega
  | x :: r, [], h, _, e => by
    have h1 := pkr_pos hB r (fun z hz => h z (List.mem_cons_of_mem _ hz))
    have h2 := h x List.mem_cons_self
    have h3 : 0 ≤ pkr B d r * B := Int.mul_nonneg h1 (Int.le_of_lt hB)
    have e' : pkr B d r * B + (x - d) = 0 := e
    omega
  | x :: r, y :: r', h, h', e => by
    have hx := h x List.mem_cons_self
    have hy := h' y List.mem_cons_self
    have e' : pkr B d r * B + (x - d) = pkr B d r' * B + (y - d) := e
    have eq : pkr B d r = pkr B d r' := by
      apply Classical.byContradiction
      intro z
      by_cases z1 : pkr B d r < pkr B d r'
      · have := Int.mul_le_mul_of_nonneg_right (show pkr B d r + 1 ≤ pkr B d r' by omega) (Int.le_of_lt hB)
        rw [Int.add_mul, Int.one_mul] at this
        omega
      · have := Int.mul_le_mul_of_nonneg_right (show pkr B d r' + 1 ≤ pkr B d r by omega) (Int.le_of_lt hB)
        rw [Int.add_mul, Int.one_mul] at this
        omega
    have er := pkr_inj hB r r' (fun z hz => h z (List.mem_cons_of_mem _ hz)) (fun z hz => h' z (List.mem_cons_of_mem _ hz)) eq
    rw [eq] at e'
    have ex : x = y := by omega
    rw [er, ex]
theorem pkv_inj {B d : Int} (hB : 0 < B) {l l' : List Int} (h : ∀ x ∈ l, 1 ≤ x - d ∧ x - d < B) (h' : ∀ x ∈ l', 1 ≤ x - d ∧ x - d < B) (e : pkv B d l = pkv B d l') : l = l' := by
  rw [pkv_rev, pkv_rev] at e
  have := pkr_inj hB l.reverse l'.reverse (fun x hx => h x (List.mem_reverse.mp hx)) (fun x hx => h' x (List.mem_reverse.mp hx)) e
  rw [← List.reverse_reverse l, this, List.reverse_reverse]
theorem wrdL_ltt : ∀ l ∈ wrdL, (∀ x ∈ l, ltt x = true) ∧ l.length ≤ 6 := by decide
theorem wrdL_nodup : wrdL.Nodup := by decide
theorem idxOf_map {f : List Int → Int} {x : List Int} : ∀ L : List (List Int), (∀ y ∈ L, f y = f x → y = x) → (L.map f).idxOf (f x) = L.idxOf x
  | [], _ => rfl
  | y :: L, h => by
    rw [List.map_cons, List.idxOf_cons, List.idxOf_cons, idxOf_map L (fun z hz => h z (List.mem_cons_of_mem _ hz))]
    have e : (f y == f x) = (y == x) := by
      by_cases c : y = x
      · rw [c]; simp
      · have : ¬ f y = f x := fun z => c (h y List.mem_cons_self z)
        have e1 : (f y == f x) = false := by simpa using this
        have e2 : (y == x) = false := by simpa using c
        rw [e1, e2]
    rw [e]
theorem ltt_rg {B d : Int} (h1 : d + 1 ≤ 97) (h2 : 122 - d < B) {l : List Int} (h : ∀ x ∈ l, ltt x = true) : ∀ x ∈ l, 1 ≤ x - d ∧ x - d < B := fun x hx => by
  have := ltt_iff.mp (h x hx)
  omega
/-- the class's row of packed words tells a word's number -/
theorem wix_row {l : List Int} (h : ∀ x ∈ l, ltt x = true) : (if pkv 32 96 l ∈ wrdL.map (pkv 32 96) then ((wrdL.map (pkv 32 96)).idxOf (pkv 32 96 l) : Int) else -1) = wix l := by
  have inj : ∀ y ∈ wrdL, pkv 32 96 y = pkv 32 96 l → y = l := fun y hy e => pkv_inj (by decide) (ltt_rg (by decide) (by decide) (wrdL_ltt y hy).1) (ltt_rg (by decide) (by decide) h) e
  unfold wix
  by_cases c : l ∈ wrdL
  · rw [if_pos c, if_pos (List.mem_map.mpr ⟨l, c, rfl⟩), idxOf_map wrdL inj]
  · rw [if_neg c, if_neg]
    intro z
    obtain ⟨y, hy, e⟩ := List.mem_map.mp z
    exact c (inj y hy e ▸ hy)
/-- the reference's number of a word -/
theorem wix_num {l : List Int} (h : ∀ x ∈ l, ltt x = true) {i : Nat} (hi : i < 29) : pkv 256 0 l = pkv 256 0 (wrdL.getD i []) ↔ wix l = (i : Int) := by
  have hl : wrdL.length = 29 := rfl
  have hm : wrdL.getD i [] ∈ wrdL := by rw [List.getD_eq_getElem?_getD, List.getElem?_eq_getElem (by omega)]; exact List.getElem_mem _
  constructor
  · intro e
    have := pkv_inj (by decide) (ltt_rg (by decide) (by decide) h) (ltt_rg (by decide) (by decide) (wrdL_ltt _ hm).1) e
    unfold wix
    rw [this, if_pos hm]
    have hi' : i < wrdL.length := by rw [hl]; exact hi
    have e2 : wrdL.getD i [] = wrdL[i]'hi' := by rw [List.getD_eq_getElem?_getD, List.getElem?_eq_getElem hi']; rfl
    rw [e2]
    exact congrArg _ (List.Nodup.idxOf_getElem wrdL_nodup i hi')
  · intro e
    unfold wix at e
    split at e
    · rename_i c
      have hix := List.idxOf_lt_length_of_mem c
      have : wrdL.idxOf l = i := by omega
      have e2 : wrdL.getD i [] = l := by
        rw [← this, List.getD_eq_getElem?_getD, List.getElem?_eq_getElem hix, List.getElem_idxOf hix]; rfl
      rw [e2]
    · omega
theorem wix_rg (l : List Int) : -1 ≤ wix l ∧ wix l ≤ 28 := by
  unfold wix
  split
  · rename_i c
    have := List.idxOf_lt_length_of_mem c
    have hl : wrdL.length = 29 := rfl
    omega
  · omega
