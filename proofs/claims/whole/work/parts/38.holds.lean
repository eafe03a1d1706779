/-! ===== L2: a test is asked ===== -/
def wrd (k : Int) : Int := if k = 1 then 13 else if k = 2 then 15 else if k = 3 then 14 else if k = 4 then 16 else if k = 5 then 3 else if k = 6 then 17 else if k = 7 then 18 else if k = 8 then 19 else if k = 9 then 20 else 21
def isfc (k : Int) : Prop := 1 ≤ k ∧ k ≤ 10
def stpc (c : Int × Int) : Int := if c.1 = 0 then 1000 + c.2 else if c.1 = 30 then 1001 else if c.1 ≤ 10 then 100 + wrd c.1 else stp c.1
/-- one step, the stack's top first -/
def xst (fc : Int → Int) (c : Int × Int) (s : List Int) : List Int :=
  if c.1 = 0 then c.2 :: s else if c.1 = 30 then 1 :: s else if c.1 ≤ 10 then fc c.1 :: s
  else if c.1 = 43 then (match s with | a :: r => (1 - a) :: r | _ => s)
  else if c.1 = 44 then (match s with | b :: a :: t :: r => (if t = 1 then a else b) :: r | _ => s)
  else (match s with | b :: a :: r => opv c.1 a b :: r | _ => s)
def xsr (fc : Int → Int) (cs : List (Int × Int)) (s : List Int) : List Int := cs.foldl (fun s c => xst fc c s) s
/-- what kinds of value lie on the stack: true a test's -/
def xty (c : Int × Int) (ts : List Bool) : Option (List Bool) :=
  if c.1 = 0 then (if 0 ≤ c.2 ∧ c.2 ≤ 9999 then some (false :: ts) else none) else if c.1 = 30 then some (true :: ts) else if 1 ≤ c.1 ∧ c.1 ≤ 10 then some (false :: ts)
  else if c.1 = 43 then (match ts with | true :: r => some (true :: r) | _ => none)
  else if c.1 = 44 then (match ts with | false :: false :: true :: r => some (false :: r) | _ => none)
  else if 31 ≤ c.1 ∧ c.1 ≤ 37 then (match ts with | false :: false :: r => some (false :: r) | _ => none)
  else if 38 ≤ c.1 ∧ c.1 ≤ 40 then (match ts with | false :: false :: r => some (true :: r) | _ => none)
  else if 41 ≤ c.1 ∧ c.1 ≤ 42 then (match ts with | true :: true :: r => some (true :: r) | _ => none) else none
def tyr : List (Int × Int) → List Bool → Option (List Bool)
  | [], ts => some ts
  | c :: cs, ts => (xty c ts).bind fun t => if t.length ≤ 499 then tyr cs t else none
def okS : List Bool → List Int → Prop
  | [], [] => True
  | t :: ts, x :: s => okv x ∧ (t = true → x = 0 ∨ x = 1) ∧ okS ts s
  | _, _ => False
theorem okS_len : ∀ {ts : List Bool} {s : List Int}, okS ts s → s.length = ts.length
  | [], [], _ => rfl
  | _ :: ts, _ :: s, h => by rw [List.length_cons, List.length_cons, okS_len h.2.2]
  | [], _ :: _, h => h.elim
  | _ :: _, [], h => h.elim
/-- the kinds of step -/
theorem xty_shape {c : Int × Int} {ts ts' : List Bool} (e : xty c ts = some ts') : (c.1 = 0 ∧ 0 ≤ c.2 ∧ c.2 ≤ 9999 ∧ ts' = false :: ts) ∨ (c.1 = 30 ∧ ts' = true :: ts) ∨ (isfc c.1 ∧ ts' = false :: ts) ∨ (c.1 = 43 ∧ ∃ r, ts = true :: r ∧ ts' = true :: r) ∨ (c.1 = 44 ∧ ∃ r, ts = false :: false :: true :: r ∧ ts' = false :: r) ∨ (31 ≤ c.1 ∧ c.1 ≤ 42 ∧ ∃ x y r, ts = x :: x :: r ∧ ts' = y :: r ∧ (41 ≤ c.1 → x = true) ∧ (y = true → 38 ≤ c.1)) := by
  unfold xty at e
  by_cases h0 : c.1 = 0
  · rw [if_pos h0] at e
    split at e
    · rename_i hv
      cases e
      exact Or.inl ⟨h0, hv.1, hv.2, rfl⟩
    · cases e
  rw [if_neg h0] at e
  by_cases h1 : c.1 = 30
  · rw [if_pos h1] at e
    cases e
    exact Or.inr (Or.inl ⟨h1, rfl⟩)
  rw [if_neg h1] at e
  by_cases h2 : 1 ≤ c.1 ∧ c.1 ≤ 10
  · rw [if_pos h2] at e
    cases e
    exact Or.inr (Or.inr (Or.inl ⟨h2, rfl⟩))
  rw [if_neg h2] at e
  by_cases h3 : c.1 = 43
  · rw [if_pos h3] at e
    split at e
    · cases e
      exact Or.inr (Or.inr (Or.inr (Or.inl ⟨h3, _, rfl, rfl⟩)))
    · cases e
  rw [if_neg h3] at e
  by_cases h4 : c.1 = 44
  · rw [if_pos h4] at e
    split at e
    · cases e
      exact Or.inr (Or.inr (Or.inr (Or.inr (Or.inl ⟨h4, _, rfl, rfl⟩))))
    · cases e
  rw [if_neg h4] at e
  refine Or.inr (Or.inr (Or.inr (Or.inr (Or.inr ?_))))
  by_cases h5 : 31 ≤ c.1 ∧ c.1 ≤ 37
  · rw [if_pos h5] at e
    split at e
    · cases e
      exact ⟨h5.1, by omega, false, false, _, rfl, rfl, (fun z => by omega), (fun z => by cases z)⟩
    · cases e
  rw [if_neg h5] at e
  by_cases h6 : 38 ≤ c.1 ∧ c.1 ≤ 40
  · rw [if_pos h6] at e
    split at e
    · cases e
      exact ⟨by omega, by omega, false, true, _, rfl, rfl, (fun z => by omega), (fun z => h6.1)⟩
    · cases e
  rw [if_neg h6] at e
  by_cases h7 : 41 ≤ c.1 ∧ c.1 ≤ 42
  · rw [if_pos h7] at e
    split at e
    · cases e
      exact ⟨by omega, by omega, true, true, _, rfl, rfl, (fun z => rfl), (fun z => by omega)⟩
    · cases e
  rw [if_neg h7] at e
  cases e
theorem xst_num {fc : Int → Int} {c : Int × Int} {s : List Int} (h : c.1 = 0) : xst fc c s = c.2 :: s := by unfold xst; rw [if_pos h]
theorem xst_all {fc : Int → Int} {c : Int × Int} {s : List Int} (h : c.1 = 30) : xst fc c s = 1 :: s := by unfold xst; rw [if_neg (by omega), if_pos h]
theorem xst_fct {fc : Int → Int} {c : Int × Int} {s : List Int} (h : isfc c.1) : xst fc c s = fc c.1 :: s := by unfold isfc at h; unfold xst; rw [if_neg (by omega), if_neg (by omega), if_pos h.2]
theorem xst_not {fc : Int → Int} {c : Int × Int} {a : Int} {s : List Int} (h : c.1 = 43) : xst fc c (a :: s) = (1 - a) :: s := by unfold xst; rw [if_neg (by omega), if_neg (by omega), if_neg (by omega), if_pos h]
theorem xst_iff {fc : Int → Int} {c : Int × Int} {a b t : Int} {s : List Int} (h : c.1 = 44) : xst fc c (b :: a :: t :: s) = (if t = 1 then a else b) :: s := by unfold xst; rw [if_neg (by omega), if_neg (by omega), if_neg (by omega), if_neg (by omega), if_pos h]
theorem xst_op {fc : Int → Int} {c : Int × Int} {a b : Int} {s : List Int} (h : 31 ≤ c.1 ∧ c.1 ≤ 42) : xst fc c (b :: a :: s) = opv c.1 a b :: s := by unfold xst; rw [if_neg (by omega), if_neg (by omega), if_neg (by omega), if_neg (by omega), if_neg (by omega)]
theorem okS_cons {t : Bool} {ts : List Bool} {s : List Int} (h : okS (t :: ts) s) : ∃ x r, s = x :: r ∧ okv x ∧ (t = true → x = 0 ∨ x = 1) ∧ okS ts r := by
  cases s with
  | nil => exact h.elim
  | cons x r => exact ⟨x, r, rfl, h.1, h.2.1, h.2.2⟩
theorem opv_01 {c a b : Int} (h : 38 ≤ c) : opv c a b = 0 ∨ opv c a b = 1 := by
  have z01 : ∀ (p : Prop) [Decidable p], (if p then (1 : Int) else 0) = 0 ∨ (if p then (1 : Int) else 0) = 1 := fun p _ => by split <;> simp
  unfold opv
  rw [if_neg (by omega), if_neg (by omega), if_neg (by omega), if_neg (by omega), if_neg (by omega), if_neg (by omega), if_neg (by omega)]
  split
  · exact z01 _
  split
  · exact z01 _
  split
  · exact z01 _
  split
  · exact z01 _
  · exact z01 _
theorem isop_of {c : Int} (h : 31 ≤ c ∧ c ≤ 42) : isop c := by unfold isop; omega
theorem okS_step {fc : Int → Int} {c : Int × Int} {ts ts' : List Bool} {s : List Int} (e : xty c ts = some ts') (hs : okS ts s) (hf : isfc c.1 → okv (fc c.1)) : okS ts' (xst fc c s) := by
  rcases xty_shape e with ⟨h, h1, h2, rfl⟩ | ⟨h, rfl⟩ | ⟨h, rfl⟩ | ⟨h, r, rfl, rfl⟩ | ⟨h, r, rfl, rfl⟩ | ⟨h, h', x, y, r, rfl, rfl, h1, h2⟩
  · rw [xst_num h]
    exact ⟨⟨by omega, by omega⟩, (fun z => by cases z), hs⟩
  · rw [xst_all h]
    exact ⟨⟨by omega, by omega⟩, (fun _ => Or.inr rfl), hs⟩
  · rw [xst_fct h]
    exact ⟨hf h, (fun z => by cases z), hs⟩
  · obtain ⟨a, s, rfl, h1, h2, h3⟩ := okS_cons hs
    rw [xst_not h]
    have := h2 rfl
    exact ⟨⟨by omega, by omega⟩, (fun _ => by omega), h3⟩
  · obtain ⟨b, s, rfl, b1, -, hs⟩ := okS_cons hs
    obtain ⟨a, s, rfl, a1, -, hs⟩ := okS_cons hs
    obtain ⟨t, s, rfl, -, -, hs⟩ := okS_cons hs
    rw [xst_iff h]
    exact ⟨by split <;> assumption, (fun z => by cases z), hs⟩
  · obtain ⟨b, s, rfl, b1, b2, hs⟩ := okS_cons hs
    obtain ⟨a, s, rfl, a1, a2, hs⟩ := okS_cons hs
    rw [xst_op ⟨h, h'⟩]
    exact ⟨opv_ok (isop_of ⟨h, h'⟩) a1 b1, (fun z => opv_01 (h2 z)), hs⟩
/-- on the way: the stack behind n steps -/
theorem tyr_at {fc : Int → Int} : ∀ (cs : List (Int × Int)) (hf : ∀ c ∈ cs, isfc c.1 → okv (fc c.1)) (ts tz : List Bool) (s : List Int), tyr cs ts = some tz → okS ts s → ts.length ≤ 499 → ∀ n, n ≤ cs.length → ∃ tn, okS tn (xsr fc (cs.take n) s) ∧ tn.length ≤ 499 ∧ (∀ h : n < cs.length, ∃ t', xty cs[n] tn = some t' ∧ t'.length ≤ 499) ∧ (n = cs.length → tn = tz)
  | [], hf, ts, tz, s, e, hs, hl, n, hn => ⟨ts, by rw [List.take_nil]; exact hs, hl, fun h => absurd h (by simp), fun _ => by cases e; rfl⟩
  | c :: cs, hf, ts, tz, s, e, hs, hl, 0, hn => by
    obtain ⟨t, e1, e2⟩ := Option.bind_eq_some_iff.mp e
    split at e2
    · rename_i ht
      exact ⟨ts, hs, hl, fun _ => ⟨t, e1, ht⟩, fun z => by simp at z⟩
    · cases e2
  | c :: cs, hf, ts, tz, s, e, hs, hl, n + 1, hn => by
    obtain ⟨t, e1, e2⟩ := Option.bind_eq_some_iff.mp e
    split at e2
    · rename_i ht
      obtain ⟨tn, a1, a2, a3, a4⟩ := tyr_at cs (fun d hd => hf d (List.mem_cons_of_mem _ hd)) t tz (xst fc c s) e2 (okS_step e1 hs (hf c List.mem_cons_self)) ht n (by simp at hn; omega)
      exact ⟨tn, a1, a2, fun h => a3 (by simp at h; omega), fun z => a4 (by simp at z; omega)⟩
    · cases e2
theorem xsr_succ {fc : Int → Int} {cs : List (Int × Int)} {s : List Int} {n : Nat} (h : n < cs.length) : xsr fc (cs.take (n + 1)) s = xst fc cs[n] (xsr fc (cs.take n) s) := by
  unfold xsr
  rw [List.take_add_one, List.getElem?_eq_getElem h, List.foldl_append]
  rfl

theorem xst_congr {fc fc' : Int → Int} {c : Int × Int} (h : isfc c.1 → fc c.1 = fc' c.1) (h0 : c.1 ≤ 10 → 0 ≤ c.1) (s : List Int) : xst fc c s = xst fc' c s := by
  unfold xst
  by_cases z : c.1 = 0
  · rw [if_pos z, if_pos z]
  rw [if_neg z, if_neg z]
  by_cases h1 : c.1 = 30
  · rw [if_pos h1, if_pos h1]
  rw [if_neg h1, if_neg h1]
  by_cases h2 : c.1 ≤ 10
  · rw [if_pos h2, if_pos h2, h ⟨by have := h0 h2; omega, h2⟩]
  rw [if_neg h2, if_neg h2]
theorem xsr_congr {fc fc' : Int → Int} : ∀ (cs : List (Int × Int)) (_ : ∀ c ∈ cs, isfc c.1 → fc c.1 = fc' c.1) (_ : ∀ c ∈ cs, c.1 ≤ 10 → 0 ≤ c.1) (s : List Int), xsr fc cs s = xsr fc' cs s
  | [], _, _, _ => rfl
  | c :: cs, h, h0, s => by
    show xsr fc cs (xst fc c s) = xsr fc' cs (xst fc' c s)
    rw [xst_congr (h c List.mem_cons_self) (h0 c List.mem_cons_self), xsr_congr cs (fun d hd => h d (List.mem_cons_of_mem _ hd)) (fun d hd => h0 d (List.mem_cons_of_mem _ hd))]
