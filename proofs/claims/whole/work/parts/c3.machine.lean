/-! ===== L2: the machine that holds back does what the parser does ===== -/
theorem rnk_le (x : Int) : rnk x ≤ 6 := by unfold rnk; repeat (first | split | omega)
def zro (H : List Int) : List (Int × Int) := H.map fun x => (x, 0)
def low (l base : Nat) (S : List Int) : Prop := base ≤ S.length ∧ (S.length = base ∨ ∃ y S', S = y :: S' ∧ rnk y < l)
theorem low.base (l : Nat) (S : List Int) : low l S.length S := ⟨Nat.le_refl _, Or.inl rfl⟩
theorem low.cons {l base : Nat} {S : List Int} (h : base ≤ S.length) {y : Int} (hy : rnk y < l) : low l base (y :: S) := ⟨by rw [List.length_cons]; omega, Or.inr ⟨y, S, rfl, hy⟩⟩
theorem low.up {l l' base : Nat} {S : List Int} (h : low l base S) (hl : l ≤ l') : low l' base S := ⟨h.1, h.2.imp id (fun ⟨y, S', e, hy⟩ => ⟨y, S', e, by omega⟩)⟩
theorem jn_spec {l base : Nat} {S : List Int} (hS : low l base S) : ∀ (H : List Int) (c : List (Int × Int)) (o : Nat), (∀ x ∈ H, l ≤ rnk x) → jn l base (H ++ S) c (o + H.count 43) = (S, c ++ zro H, o)
  | [], c, o, _ => by
    show jn l base S c (o + 0) = (S, c ++ [], o)
    rw [List.append_nil, Nat.add_zero]
    rcases hS with ⟨h1, h2⟩
    cases S with
    | nil => rfl
    | cons y S' =>
      unfold jn
      rw [if_neg]
      rintro ⟨z1, z2⟩
      rcases h2 with h2 | ⟨y', S'', e, hy⟩
      · rw [List.length_cons] at h2; omega
      · injection e with e1 e2
        rw [← e1] at hy
        omega
  | x :: H, c, o, hH => by
    have hx := hH x List.mem_cons_self
    rw [List.cons_append]
    unfold jn
    rw [if_pos ⟨by rw [List.length_append]; have := hS.1; omega, hx⟩]
    have e : (if x = 43 then o + (x :: H).count 43 - 1 else o + (x :: H).count 43) = o + H.count 43 := by
      rw [List.count_cons]
      by_cases z : x = 43
      · rw [if_pos z, if_pos (by simpa using z)]; omega
      · rw [if_neg z, if_neg (by simpa using z)]; rfl
    rw [e, jn_spec hS H (c ++ [(x, 0)]) o (fun y hy => hH y (List.mem_cons_of_mem _ hy)), List.append_assoc]
    rfl
/-- the machine has read what the parser has read up to s', holding back above S operators of rank l or more -/
def Af (tk : TkF) (w : Nat) (st : MSt) (l : Nat) (S : List Int) (F : FRm) (fr : List FRm) (s' : PSt) : Prop := ∃ H cm, Gs tk w st (.inl (s'.1, s'.2.1 + H.count 43, cm, H ++ S, F :: fr, true)) ∧ cm ++ zro H = s'.2.2 ∧ ∀ x ∈ H, l ≤ rnk x
def Rt (tk : TkF) (w : Nat) (st : MSt) (l : Nat) (S : List Int) (mk : Int → FRm) (fr : List FRm) (Q : Int → Nat → Prop) (r : PRs) : Prop := match r with
  | some (.inl s') => ∃ ph, Q ph s'.1 ∧ Af tk w st l S (mk ph) fr s'
  | some (.inr x) => Gs tk w st (.inr (.inr x))
  | none => True
theorem Rt.tr {tk : TkF} {w : Nat} {st st2 : MSt} {l : Nat} {S : List Int} {mk : Int → FRm} {fr : List FRm} {Q : Int → Nat → Prop} {r : PRs} (h1 : Gs tk w st (.inl st2)) (h2 : Rt tk w st2 l S mk fr Q r) : Rt tk w st l S mk fr Q r := by
  rcases r with _ | (s' | x)
  · trivial
  · obtain ⟨ph, q, H, cm, a1, a2⟩ := h2
    exact ⟨ph, q, H, cm, h1.tr a1, a2⟩
  · exact h1.tr h2
theorem Af.push {tk : TkF} {w : Nat} {st : MSt} {l l' : Nat} {S : List Int} {op : Int} {F : FRm} {fr : List FRm} {s' : PSt} (a : Af tk w st l' (op :: S) F fr s') (h1 : l ≤ l') (h2 : l ≤ rnk op) (h3 : op ≠ 43) : Af tk w st l S F fr (adc op s') := by
  obtain ⟨H, cm, a1, a2, a3⟩ := a
  refine ⟨H ++ [op], cm, ?_, ?_, fun x hx => ?_⟩
  · have e : (H ++ [op]).count 43 = H.count 43 := by
      rw [List.count_append, List.count_singleton, if_neg (by simpa using h3)]; rfl
    rw [e, List.append_assoc]
    exact a1
  · show cm ++ (H ++ [op]).map _ = s'.2.2 ++ [(op, 0)]
    rw [List.map_append, ← List.append_assoc]
    show cm ++ zro H ++ [(op, 0)] = _
    rw [a2]
  · rcases List.mem_append.mp hx with z | z
    · exact Nat.le_trans h1 (a3 x z)
    · rw [List.mem_singleton.mp z]; exact h2
theorem Af.weak {tk : TkF} {w : Nat} {st : MSt} {l l' : Nat} {S : List Int} {F : FRm} {fr : List FRm} {s' : PSt} (a : Af tk w st l' S F fr s') (h1 : l ≤ l') : Af tk w st l S F fr s' := by
  obtain ⟨H, cm, a1, a2, a3⟩ := a
  exact ⟨H, cm, a1, a2, fun x hx => Nat.le_trans h1 (a3 x hx)⟩
/-- a chain: reader, separator, reader, .. -/
theorem Rt.loop {tk : TkF} {w : Nat} {st : MSt} {l l' : Nat} {S : List Int} {mk : Int → FRm} {fr : List FRm} {Q' : Int → Nat → Prop} {F2 : FRm} (f : PSt → PRs) (sep : Nat → Option Int) (hl : l ≤ l') (hop : ∀ k op, sep k = some op → l ≤ rnk op ∧ op ≠ 43)
    (hgo : ∀ (s : PSt) (ph : Int) (H : List Int) (cm : List (Int × Int)) (op : Int), Q' ph s.1 → (∀ x ∈ H, l ≤ rnk x) → cm ++ zro H = s.2.2 → sep s.1 = some op → mSt tk w (s.1, s.2.1 + H.count 43, cm, H ++ S, mk ph :: fr, true) = .inl (s.1 + 1, s.2.1, s.2.2, op :: S, F2 :: fr, false))
    (hf : ∀ (s : PSt) (op : Int), sep s.1 = some op → Rt tk w (s.1 + 1, s.2.1, s.2.2, op :: S, F2 :: fr, false) l' (op :: S) mk fr Q' (f (s.1 + 1, s.2))) :
    ∀ (m : Nat) (s : PSt), (∃ ph, Q' ph s.1 ∧ Af tk w st l S (mk ph) fr s) → Rt tk w st l S mk fr (fun ph k => Q' ph k ∧ sep k = none) (plp f sep m s)
  | 0, s, h => by
    obtain ⟨ph, q, a⟩ := h
    unfold plp
    split
    · rename_i c
      exact ⟨ph, ⟨q, c⟩, a⟩
    · trivial
  | m + 1, s, h => by
    obtain ⟨ph, q, H, cm, a1, a2, a3⟩ := h
    unfold plp
    split
    · rename_i c
      exact ⟨ph, ⟨q, c⟩, H, cm, a1, a2, a3⟩
    · rename_i op c
      have go := a1.tr (Gs.one (hgo s ph H cm op q a3 a2 c))
      have r1 := Rt.tr go (hf s op c)
      rcases hr : f (s.1 + 1, s.2) with _ | (s1 | x)
      · rw [bP_none]; trivial
      · rw [hr] at r1
        rw [bP_ok]
        obtain ⟨ph1, q1, b⟩ := r1
        exact Rt.loop f sep hl hop hgo hf m (adc op s1) ⟨ph1, q1, b.push hl (hop _ _ c).1 (hop _ _ c).2⟩
      · rw [hr] at r1
        rw [bP_no]; exact r1
/-! single steps of the machine behind an operand -/
theorem mGo_sum {tk : TkF} {k o : Nat} {c : List (Int × Int)} {ops : List Int} {F : FRm} {fr : List FRm} {op : Int} (h1 : F.2.1 < 2) (h2 : sSum tk k = some op) : mGo tk k o c ops F fr = .inl (k + 1, (jn 5 F.2.2.2.2 ops c o).2.2, (jn 5 F.2.2.2.2 ops c o).2.1, op :: (jn 5 F.2.2.2.2 ops c o).1, F :: fr, false) := by
  have := (sep_kd.2.2.1 h2).1
  unfold mGo
  rw [if_neg (by omega), if_pos h1, h2]
theorem mGo_pro {tk : TkF} {k o : Nat} {c : List (Int × Int)} {ops : List Int} {F : FRm} {fr : List FRm} {op : Int} (h1 : F.2.1 < 2) (h2 : sPro tk k = some op) : mGo tk k o c ops F fr = .inl (k + 1, (jn 6 F.2.2.2.2 ops c o).2.2, (jn 6 F.2.2.2.2 ops c o).2.1, op :: (jn 6 F.2.2.2.2 ops c o).1, F :: fr, false) := by
  have hk := (sep_kd.2.2.2.1 h2).1
  have hn : sSum tk k = none := by
    unfold sPro at h2
    unfold sSum
    have e : ∀ x y : Int, x ≠ y → isG tk k x = true → ¬ isG tk k y = true := fun x y hxy a b => hxy ((isG_kd a).2.symm.trans (isG_kd b).2)
    split at h2
    · rename_i c1
      rw [if_neg (e 42 43 (by decide) c1), if_neg (e 42 45 (by decide) c1)]
    · split at h2
      · rename_i c1
        rw [if_neg (e 47 43 (by decide) c1), if_neg (e 47 45 (by decide) c1)]
      · split at h2
        · rename_i c1
          rw [if_neg (e 37 43 (by decide) c1), if_neg (e 37 45 (by decide) c1)]
        · cases h2
  unfold mGo
  rw [if_neg (show ¬ (tk k).1 = 4 by omega)]
  simp only [if_pos h1, hn, h2]
theorem mGo_cmp {tk : TkF} {k o : Nat} {c : List (Int × Int)} {ops : List Int} {F : FRm} {fr : List FRm} {op : Int} (h1 : tst F.1 = true) (h0 : F.2.1 = 0) (h2 : sCmp tk k = some op) (n1 : sSum tk k = none) (n2 : sPro tk k = none) : mGo tk k o c ops F fr = .inl (k + 1, (jn 5 F.2.2.2.2 ops c o).2.2, (jn 5 F.2.2.2.2 ops c o).2.1, op :: (jn 5 F.2.2.2.2 ops c o).1, (F.1, 1, F.2.2) :: fr, false) := by
  have hk := (sep_kd.2.2.2.2 h2).1
  unfold mGo
  rw [if_neg (show ¬ (tk k).1 = 4 by omega)]
  simp only [if_pos (show F.2.1 < 2 by omega), n1, n2, if_pos (And.intro h1 h0), h2]
/-- behind a complete test or sum: no operator stands here -/
def nop (tk : TkF) (F : FRm) (k : Nat) : Prop := (F.2.1 < 2 → sSum tk k = none ∧ sPro tk k = none) ∧ (tst F.1 = true → F.2.1 ≠ 0)
theorem mGo_rest {tk : TkF} {k o : Nat} {c : List (Int × Int)} {ops : List Int} {F : FRm} {fr : List FRm} (h1 : (tk k).1 ≠ 4) (h2 : nop tk F k) : mGo tk k o c ops F fr =
    if tst F.1 = true ∧ isW tk k 27 = true then .inl (k + 1, (jn 2 F.2.2.2.2 ops c o).2.2, (jn 2 F.2.2.2.2 ops c o).2.1, 41 :: (jn 2 F.2.2.2.2 ops c o).1, (F.1, 0, true, F.2.2.2) :: fr, false) else
    if tst F.1 = true ∧ isW tk k 28 = true then .inl (k + 1, (jn 1 F.2.2.2.2 ops c o).2.2, (jn 1 F.2.2.2.2 ops c o).2.1, 42 :: (jn 1 F.2.2.2.2 ops c o).1, (F.1, 0, true, F.2.2.2) :: fr, false) else
    if F.1 < 2 then .inr (.inl (k, (jn 1 F.2.2.2.2 ops c o).2.1)) else
    if F.1 = 3 ∨ F.1 = 6 then (if isG tk k 44 = true then .inl (k + 1, (jn 1 F.2.2.2.2 ops c o).2.2, (jn 1 F.2.2.2.2 ops c o).2.1, (jn 1 F.2.2.2.2 ops c o).1, ((if F.1 = 3 then 4 else 3), 0, F.2.2) :: fr, false) else .inr (.inr (1, (tk k).2.2))) else
    if isG tk k (if F.1 = 5 then 93 else 41) = true then .inl (k + 1, (jn 1 F.2.2.2.2 ops c o).2.2 - 1, (jn 1 F.2.2.2.2 ops c o).2.1 ++ (if F.1 = 4 then [(F.2.2.2.1, 0)] else []), (jn 1 F.2.2.2.2 ops c o).1, (match fr with | G :: r => (if F.1 = 5 then (G.1, 2, G.2.2) else G) :: r | [] => []), true)
    else .inr (.inr (1, (tk k).2.2)) := by
  have e1 : (if F.2.1 < 2 then sSum tk k else none) = none := by split <;> first | (rename_i z; exact (h2.1 z).1) | rfl
  have e2 : (if F.2.1 < 2 then sPro tk k else none) = none := by split <;> first | (rename_i z; exact (h2.1 z).2) | rfl
  have e3 : ¬ (tst F.1 = true ∧ F.2.1 = 0) := fun z => h2.2 z.1 z.2
  unfold mGo
  rw [if_neg h1, e1, e2, if_neg e3]
  dsimp only
  rw [if_neg e3]
  rfl
