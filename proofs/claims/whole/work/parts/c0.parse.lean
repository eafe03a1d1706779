/-! ===== L2: the parser of tests, as a value (class's form) ===== -/
abbrev TkF : Type := Nat → Int × Int × Int
abbrev PSt : Type := Nat × Nat × List (Int × Int)
abbrev PRs : Type := Option (PSt ⊕ (Int × Int))
def isW (tk : TkF) (k : Nat) (w : Int) : Bool := decide ((tk k).1 = 1) && decide ((tk k).2.1 = w)
def isG (tk : TkF) (k : Nat) (s : Int) : Bool := decide ((tk k).1 = 3) && decide ((tk k).2.1 = s)
def wrg (tk : TkF) (k : Nat) : Int × Int := (1, if (tk k).1 = 4 then (tk k).2.1 else (tk k).2.2)
def bP (r : PRs) (g : PSt → PRs) : PRs := match r with
  | some (.inl s) => g s
  | some (.inr x) => some (.inr x)
  | none => none
theorem bP_ok (s : PSt) (g : PSt → PRs) : bP (some (.inl s)) g = g s := rfl
theorem bP_no (x : Int × Int) (g : PSt → PRs) : bP (some (.inr x)) g = some (.inr x) := rfl
theorem bP_none (g : PSt → PRs) : bP none g = none := rfl
def tks (tk : TkF) (sg : Int) (s : PSt) : PRs := if isG tk s.1 sg = true then some (.inl (s.1 + 1, s.2)) else some (.inr (wrg tk s.1))
def opn (tk : TkF) (s : PSt) : PRs := if s.2.1 = 7 then some (.inr (5, (tk s.1).2.2)) else some (.inl (s.1 + 1, s.2.1 + 1, s.2.2))
def adc (op : Int) (s : PSt) : PSt := (s.1, s.2.1, s.2.2 ++ [(op, 0)])
def clo (s : PSt) : PSt := (s.1, s.2.1 - 1, s.2.2)
def sOr (tk : TkF) (k : Nat) : Option Int := if isW tk k 28 = true then some 42 else none
def sAnd (tk : TkF) (k : Nat) : Option Int := if isW tk k 27 = true then some 41 else none
def sSum (tk : TkF) (k : Nat) : Option Int := if isG tk k 43 = true then some 31 else if isG tk k 45 = true then some 32 else none
def sPro (tk : TkF) (k : Nat) : Option Int := if isG tk k 42 = true then some 33 else if isG tk k 47 = true then some 34 else if isG tk k 37 = true then some 35 else none
def sCmp (tk : TkF) (k : Nat) : Option Int := if isG tk k 60 = true then some 38 else if isG tk k 62 = true then some 39 else if isG tk k 61 = true then some 40 else none
/-- the sort of a fact, when the test w may ask it -/
def fct (w : Nat) (v : Int) : Option Int :=
  if v = 13 then some 1 else if v = 15 then (if w = 2 then none else some 2) else if v = 14 then (if w = 0 then some 3 else none) else if v = 16 then (if w = 0 then some 4 else none) else if v = 3 then (if w = 0 then some 5 else none)
  else if v = 17 then (if w = 1 then some 6 else none) else if v = 18 then (if w = 1 then some 7 else none) else if v = 19 then (if w = 2 then some 8 else none) else if v = 20 then (if w = 2 then some 9 else none) else if v = 21 then (if w = 2 then some 10 else none) else none
def plp (f : PSt → PRs) (sep : Nat → Option Int) : Nat → PSt → PRs
  | 0, s => match sep s.1 with
    | none => some (.inl s)
    | some _ => none
  | m + 1, s => match sep s.1 with
    | none => some (.inl s)
    | some op => bP (f (s.1 + 1, s.2)) fun s' => plp f sep m (adc op s')
def pG (tk : TkF) (w : Nat) : Nat → Nat → PSt → PRs
  | 0, _, _ => none
  | n + 1, 0, s => bP (pG tk w n 1 s) (plp (pG tk w n 1) (sOr tk) 1600)
  | n + 1, 1, s => bP (pG tk w n 2 s) (plp (pG tk w n 2) (sAnd tk) 1600)
  | n + 1, 2, s => if isW tk s.1 25 = true then bP (opn tk s) fun s1 => bP (pG tk w n 2 s1) fun s2 => some (.inl (adc 43 (clo s2)))
      else if isG tk s.1 91 = true then bP (opn tk s) fun s1 => bP (pG tk w n 0 s1) fun s2 => bP (tks tk 93 s2) fun s3 => some (.inl (clo s3))
      else if isW tk s.1 26 = true then some (.inl (adc 30 (s.1 + 1, s.2)))
      else bP (pG tk w n 4 s) (pG tk w n 3)
  | n + 1, 3, s => match sCmp tk s.1 with
    | none => some (.inr (wrg tk s.1))
    | some op => bP (pG tk w n 4 (s.1 + 1, s.2)) fun s1 => some (.inl (adc op s1))
  | n + 1, 4, s => bP (pG tk w n 5 s) (plp (pG tk w n 5) (sSum tk) 1600)
  | n + 1, 5, s => bP (pG tk w n 6 s) (plp (pG tk w n 6) (sPro tk) 1600)
  | n + 1, 6, s => if isG tk s.1 40 = true then bP (opn tk s) fun s1 => bP (pG tk w n 4 s1) fun s2 => bP (tks tk 41 s2) fun s3 => some (.inl (clo s3))
      else if (tk s.1).1 = 2 then some (.inl (s.1 + 1, s.2.1, s.2.2 ++ [(0, (tk s.1).2.1)]))
      else if isW tk s.1 22 = true then pG tk w n 7 (s.1 + 1, s.2)
      else if isW tk s.1 23 = true then pG tk w n 8 (s.1 + 1, s.2)
      else if isW tk s.1 24 = true then pG tk w n 9 (s.1 + 1, s.2)
      else if (tk s.1).1 = 1 then (match fct w (tk s.1).2.1 with | some o => some (.inl (adc o (s.1 + 1, s.2))) | none => some (.inr (wrg tk s.1)))
      else some (.inr (wrg tk s.1))
  | n + 1, j, s => if isG tk s.1 40 = true then bP (opn tk s) fun s0 => bP (if j = 9 then bP (pG tk w n 0 s0) (tks tk 44) else some (.inl s0)) fun s1 => bP (pG tk w n 4 s1) fun s2 => bP (tks tk 44 s2) fun s3 => bP (pG tk w n 4 s3) fun s4 => bP (tks tk 41 s4) fun s5 => some (.inl (adc (if j = 7 then 36 else if j = 8 then 37 else 44) (clo s5)))
      else some (.inr (wrg tk s.1))
/-! the reference's form: a machine that holds operators back -/
abbrev FRm : Type := Int × Int × Bool × Int × Nat
abbrev MSt : Type := Nat × Nat × List (Int × Int) × List Int × List FRm × Bool
abbrev MRs : Type := MSt ⊕ ((Nat × List (Int × Int)) ⊕ (Int × Int))
def rnk (x : Int) : Nat := if x = 42 then 1 else if x = 41 then 2 else if x = 43 then 3 else if x = 38 ∨ x = 39 ∨ x = 40 then 4 else if x = 31 ∨ x = 32 then 5 else 6
def jn (least base : Nat) : List Int → List (Int × Int) → Nat → List Int × List (Int × Int) × Nat
  | [], c, o => ([], c, o)
  | x :: l, c, o => if base < l.length + 1 ∧ least ≤ rnk x then jn least base l (c ++ [(x, 0)]) (if x = 43 then o - 1 else o) else (x :: l, c, o)
def tst (k : Int) : Bool := decide (k = 1 ∨ k = 5 ∨ k = 6)
def mpu (tk : TkF) (kind pr : Int) (k o : Nat) (c : List (Int × Int)) (ops : List Int) (fr : List FRm) : MRs := if o = 7 then .inr (.inr (5, (tk k).2.2)) else .inl (k + 1, o + 1, c, ops, (kind, 0, true, pr, ops.length) :: fr, false)
/-- an operand is due -/
def mOp (tk : TkF) (w : Nat) (k o : Nat) (c : List (Int × Int)) (ops : List Int) (F : FRm) (fr : List FRm) : MRs :=
  if (tk k).1 = 4 then .inr (.inr (1, (tk k).2.1)) else
  if (tst F.1 && F.2.2.1) = true ∧ isW tk k 25 = true then (if o = 7 then .inr (.inr (5, (tk k).2.2)) else .inl (k + 1, o + 1, c, 43 :: ops, F :: fr, false)) else
  if (tst F.1 && F.2.2.1) = true ∧ isG tk k 91 = true then mpu tk 5 0 k o c ops ((F.1, F.2.1, false, F.2.2.2) :: fr) else
  if (tst F.1 && F.2.2.1) = true ∧ isW tk k 26 = true then .inl (k + 1, o, c ++ [(30, 0)], ops, (F.1, 2, false, F.2.2.2) :: fr, true) else
  if isG tk k 40 = true then mpu tk 2 0 k o c ops ((F.1, F.2.1, false, F.2.2.2) :: fr) else
  if isW tk k 22 = true ∨ isW tk k 23 = true ∨ isW tk k 24 = true then (if isG tk (k + 1) 40 = true then mpu tk (if isW tk k 24 = true then 6 else 3) (if isW tk k 22 = true then 36 else if isW tk k 23 = true then 37 else 44) (k + 1) o c ops ((F.1, F.2.1, false, F.2.2.2) :: fr) else .inr (.inr (wrg tk (k + 1)))) else
  if (tk k).1 = 2 then .inl (k + 1, o, c ++ [(0, (tk k).2.1)], ops, (F.1, F.2.1, false, F.2.2.2) :: fr, true) else
  if (tk k).1 = 1 then (match fct w (tk k).2.1 with | some s => .inl (k + 1, o, c ++ [(s, 0)], ops, (F.1, F.2.1, false, F.2.2.2) :: fr, true) | none => .inr (.inr (1, (tk k).2.2)))
  else .inr (.inr (1, (tk k).2.2))
/-- an operand was read -/
def mGo (tk : TkF) (k o : Nat) (c : List (Int × Int)) (ops : List Int) (F : FRm) (fr : List FRm) : MRs :=
  if (tk k).1 = 4 then .inr (.inr (1, (tk k).2.1)) else
  match (if F.2.1 < 2 then sSum tk k else none) with
  | some op => .inl (k + 1, (jn 5 F.2.2.2.2 ops c o).2.2, (jn 5 F.2.2.2.2 ops c o).2.1, op :: (jn 5 F.2.2.2.2 ops c o).1, F :: fr, false)
  | none => match (if F.2.1 < 2 then sPro tk k else none) with
  | some op => .inl (k + 1, (jn 6 F.2.2.2.2 ops c o).2.2, (jn 6 F.2.2.2.2 ops c o).2.1, op :: (jn 6 F.2.2.2.2 ops c o).1, F :: fr, false)
  | none => match (if tst F.1 = true ∧ F.2.1 = 0 then sCmp tk k else none) with
  | some op => .inl (k + 1, (jn 5 F.2.2.2.2 ops c o).2.2, (jn 5 F.2.2.2.2 ops c o).2.1, op :: (jn 5 F.2.2.2.2 ops c o).1, (F.1, 1, F.2.2) :: fr, false)
  | none => if tst F.1 = true ∧ F.2.1 = 0 then .inr (.inr (1, (tk k).2.2)) else
    if tst F.1 = true ∧ isW tk k 27 = true then .inl (k + 1, (jn 2 F.2.2.2.2 ops c o).2.2, (jn 2 F.2.2.2.2 ops c o).2.1, 41 :: (jn 2 F.2.2.2.2 ops c o).1, (F.1, 0, true, F.2.2.2) :: fr, false) else
    if tst F.1 = true ∧ isW tk k 28 = true then .inl (k + 1, (jn 1 F.2.2.2.2 ops c o).2.2, (jn 1 F.2.2.2.2 ops c o).2.1, 42 :: (jn 1 F.2.2.2.2 ops c o).1, (F.1, 0, true, F.2.2.2) :: fr, false) else
    if F.1 < 2 then .inr (.inl (k, (jn 1 F.2.2.2.2 ops c o).2.1)) else
    if F.1 = 3 ∨ F.1 = 6 then (if isG tk k 44 = true then .inl (k + 1, (jn 1 F.2.2.2.2 ops c o).2.2, (jn 1 F.2.2.2.2 ops c o).2.1, (jn 1 F.2.2.2.2 ops c o).1, ((if F.1 = 3 then 4 else 3), 0, F.2.2) :: fr, false) else .inr (.inr (1, (tk k).2.2))) else
    if isG tk k (if F.1 = 5 then 93 else 41) = true then .inl (k + 1, (jn 1 F.2.2.2.2 ops c o).2.2 - 1, (jn 1 F.2.2.2.2 ops c o).2.1 ++ (if F.1 = 4 then [(F.2.2.2.1, 0)] else []), (jn 1 F.2.2.2.2 ops c o).1, (match fr with | G :: r => (if F.1 = 5 then (G.1, 2, G.2.2) else G) :: r | [] => []), true)
    else .inr (.inr (1, (tk k).2.2))
def mSt (tk : TkF) (w : Nat) (s : MSt) : MRs := match s with
  | (k, o, c, ops, F :: fr, false) => mOp tk w k o c ops F fr
  | (k, o, c, ops, F :: fr, true) => mGo tk k o c ops F fr
  | _ => .inr (.inr (0, 0))
def mRn (tk : TkF) (w : Nat) : Nat → MSt → MRs
  | 0, s => .inl s
  | n + 1, s => match mSt tk w s with
    | .inl s' => mRn tk w n s'
    | .inr x => .inr x
/-- the machine goes from s on to what r says -/
def Gs (tk : TkF) (w : Nat) (s : MSt) (r : MRs) : Prop := ∃ n, mRn tk w n s = r
theorem Gs.rf (tk : TkF) (w : Nat) (s : MSt) : Gs tk w s (.inl s) := ⟨0, rfl⟩
theorem mRn_in {tk : TkF} {w : Nat} {s t : MSt} (h : mSt tk w s = .inl t) (n : Nat) : mRn tk w (n + 1) s = mRn tk w n t := by
  conv => lhs; unfold mRn
  rw [h]
theorem mRn_out {tk : TkF} {w : Nat} {s : MSt} {x : (Nat × List (Int × Int)) ⊕ (Int × Int)} (h : mSt tk w s = .inr x) (n : Nat) : mRn tk w (n + 1) s = .inr x := by
  conv => lhs; unfold mRn
  rw [h]
theorem mRn_add (tk : TkF) (w : Nat) : ∀ (n m : Nat) (s t : MSt), mRn tk w n s = .inl t → mRn tk w (n + m) s = mRn tk w m t
  | 0, m, s, t, h => by
    have e : s = t := Sum.inl.inj h
    rw [e, Nat.zero_add]
  | n + 1, m, s, t, h => by
    have e : n + 1 + m = (n + m) + 1 := by omega
    rw [e]
    rcases hr : mSt tk w s with s' | x
    · rw [mRn_in hr] at h ⊢
      exact mRn_add tk w n m s' t h
    · rw [mRn_out hr] at h
      cases h
theorem Gs.tr {tk : TkF} {w : Nat} {s t : MSt} {r : MRs} (h1 : Gs tk w s (.inl t)) (h2 : Gs tk w t r) : Gs tk w s r := by
  obtain ⟨n, h1⟩ := h1
  obtain ⟨m, h2⟩ := h2
  exact ⟨n + m, by rw [mRn_add tk w n m s t h1]; exact h2⟩
theorem Gs.one {tk : TkF} {w : Nat} {s : MSt} {r : MRs} (h : mSt tk w s = r) : Gs tk w s r := by
  refine ⟨1, ?_⟩
  cases r with
  | inl s' => exact mRn_in h 0
  | inr x => exact mRn_out h 0
