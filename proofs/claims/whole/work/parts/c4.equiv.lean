/-! ===== L2: parser and machine: a reader leaves as many open as there were ===== -/
def gdO (o : Nat) (r : PRs) : Prop := ∀ s', r = some (.inl s') → s'.2.1 = o
theorem gdO.bind {o o1 : Nat} {r : PRs} {g : PSt → PRs} (h1 : gdO o1 r) (h2 : ∀ s1 : PSt, s1.2.1 = o1 → gdO o (g s1)) : gdO o (bP r g) := by
  intro s' e
  rcases r with _ | (s1 | x)
  · cases e
  · exact h2 s1 (h1 s1 rfl) s' e
  · cases e
theorem gdO.ok {o : Nat} {s : PSt} (h : s.2.1 = o) : gdO o (some (.inl s)) := fun s' e => by
  have := Sum.inl.inj (Option.some.inj e)
  rw [← this]; exact h
theorem gdO.no (o : Nat) (x : Int × Int) : gdO o (some (.inr x)) := fun s' e => by cases e
theorem gdO.opn (tk : TkF) (s : PSt) : gdO (s.2.1 + 1) (opn tk s) := fun s1 e => by
  obtain ⟨-, rfl⟩ := opn_ok e
  rfl
theorem gdO.tks (tk : TkF) (sg : Int) {s : PSt} {o : Nat} (h : s.2.1 = o) : gdO o (tks tk sg s) := fun s1 e => by
  obtain ⟨-, rfl⟩ := tks_ok e
  exact h
theorem plp_open (f : PSt → PRs) (sep : Nat → Option Int) (hf : ∀ s : PSt, gdO s.2.1 (f s)) : ∀ (j : Nat) (s : PSt), gdO s.2.1 (plp f sep j s)
  | 0, s => by
    unfold plp
    split
    · exact gdO.ok rfl
    · exact fun s' e => by cases e
  | j + 1, s => by
    unfold plp
    split
    · exact gdO.ok rfl
    · rename_i op c
      refine gdO.bind (hf (s.1 + 1, s.2)) (fun s1 h1 => ?_)
      have := plp_open f sep hf j (adc op s1)
      have e : (adc op s1).2.1 = s.2.1 := h1
      rw [e] at this
      exact this
theorem pG_open (tk : TkF) (w : Nat) : ∀ (n j : Nat) (s : PSt), gdO s.2.1 (pG tk w n j s)
  | 0, j, s => fun s' e => by unfold pG at e; cases e
  | n + 1, j, s => by
    have ih := pG_open tk w n
    have ih' : ∀ (j : Nat) (s : PSt) (o : Nat), s.2.1 = o → gdO o (pG tk w n j s) := fun j s o h => h ▸ ih j s
    have lp : ∀ (i : Nat) (sep : Nat → Option Int), gdO s.2.1 (bP (pG tk w n i s) (plp (pG tk w n i) sep 1600)) := fun i sep => gdO.bind (ih i s) (fun s1 h1 => by
      have := plp_open (pG tk w n i) sep (ih i) 1600 s1
      rw [h1] at this
      exact this)
    match j with
    | 0 => exact lp 1 (sOr tk)
    | 1 => exact lp 2 (sAnd tk)
    | 2 =>
      show gdO s.2.1 (if isW tk s.1 25 = true then _ else _)
      split
      · exact gdO.bind (gdO.opn tk s) (fun s1 h1 => gdO.bind (ih' 2 s1 _ h1) (fun s2 h2 => gdO.ok (by show s2.2.1 - 1 = _; omega)))
      · split
        · exact gdO.bind (gdO.opn tk s) (fun s1 h1 => gdO.bind (ih' 0 s1 _ h1) (fun s2 h2 => gdO.bind (gdO.tks tk 93 h2) (fun s3 h3 => gdO.ok (by show s3.2.1 - 1 = _; omega))))
        · split
          · exact gdO.ok rfl
          · exact gdO.bind (ih 4 s) (fun s1 h1 => ih' 3 s1 _ h1)
    | 3 =>
      show gdO s.2.1 (match sCmp tk s.1 with | none => some (.inr (wrg tk s.1)) | some op => bP (pG tk w n 4 (s.1 + 1, s.2)) fun s1 => some (.inl (adc op s1)))
      split
      · exact gdO.no _ _
      · exact gdO.bind (ih' 4 _ s.2.1 rfl) (fun s1 h1 => gdO.ok h1)
    | 4 => exact lp 5 (sSum tk)
    | 5 => exact lp 6 (sPro tk)
    | 6 =>
      show gdO s.2.1 (if isG tk s.1 40 = true then _ else _)
      split
      · exact gdO.bind (gdO.opn tk s) (fun s1 h1 => gdO.bind (ih' 4 s1 _ h1) (fun s2 h2 => gdO.bind (gdO.tks tk 41 h2) (fun s3 h3 => gdO.ok (by show s3.2.1 - 1 = _; omega))))
      · split
        · exact gdO.ok rfl
        · split
          · exact ih' 7 _ s.2.1 rfl
          · split
            · exact ih' 8 _ s.2.1 rfl
            · split
              · exact ih' 9 _ s.2.1 rfl
              · split
                · split
                  · exact gdO.ok rfl
                  · exact gdO.no _ _
                · exact gdO.no _ _
    | j + 7 =>
      show gdO s.2.1 (if isG tk s.1 40 = true then _ else _)
      split
      · refine gdO.bind (gdO.opn tk s) (fun s0 h0 => gdO.bind (o1 := s.2.1 + 1) ?_ (fun s1 h1 => gdO.bind (ih' 4 s1 _ h1) (fun s2 h2 => gdO.bind (gdO.tks tk 44 h2) (fun s3 h3 => gdO.bind (ih' 4 s3 _ h3) (fun s4 h4 => gdO.bind (gdO.tks tk 41 h4) (fun s5 h5 => gdO.ok (by show s5.2.1 - 1 = _; omega)))))))
        split
        · exact gdO.bind (ih' 0 s0 _ h0) (fun sa ha => gdO.tks tk 44 ha)
        · exact gdO.ok h0
      · exact gdO.no _ _
/-! the statements, one for each reader -/
def mkF0 (F : FRm) (ph : Int) : FRm := (F.1, ph, false, F.2.2.2)
def spc (tk : TkF) (F : FRm) (k : Nat) : Prop := (tst F.1 && F.2.2.1) = true ∧ (isW tk k 25 = true ∨ isG tk k 91 = true ∨ isW tk k 26 = true)
def QS (tk : TkF) (F : FRm) (ph : Int) (k : Nat) : Prop := (ph = F.2.1 ∧ sPro tk k = none) ∧ sSum tk k = none
def QF (tk : TkF) (ph : Int) (k : Nat) : Prop := (ph = 1 ∧ sSum tk k = none ∧ sPro tk k = none) ∨ ph = 2
def EqA (tk : TkF) (w n : Nat) : Prop := ∀ (s : PSt) (F : FRm) (fr : List FRm) (S : List Int), ¬ spc tk F s.1 → Rt tk w (s.1, s.2.1, s.2.2, S, F :: fr, false) 7 S (mkF0 F) fr (fun ph _ => ph = F.2.1) (pG tk w n 6 s)
def EqP (tk : TkF) (w n : Nat) : Prop := ∀ (s : PSt) (F : FRm) (fr : List FRm) (S : List Int), ¬ spc tk F s.1 → F.2.1 < 2 → low 6 F.2.2.2.2 S → Rt tk w (s.1, s.2.1, s.2.2, S, F :: fr, false) 6 S (mkF0 F) fr (fun ph k => ph = F.2.1 ∧ sPro tk k = none) (pG tk w n 5 s)
def EqS (tk : TkF) (w n : Nat) : Prop := ∀ (s : PSt) (F : FRm) (fr : List FRm) (S : List Int), ¬ spc tk F s.1 → F.2.1 < 2 → low 5 F.2.2.2.2 S → Rt tk w (s.1, s.2.1, s.2.2, S, F :: fr, false) 5 S (mkF0 F) fr (QS tk F) (pG tk w n 4 s)
def EqK (tk : TkF) (w n : Nat) : Prop := ∀ (st : MSt) (s : PSt) (F : FRm) (fr : List FRm) (S : List Int), tst F.1 = true → sSum tk s.1 = none → sPro tk s.1 = none → low 5 F.2.2.2.2 S → Af tk w st 5 S (mkF0 F 0) fr s → Rt tk w st 3 S (mkF0 F) fr (QF tk) (pG tk w n 3 s)
def EqF (tk : TkF) (w n : Nat) : Prop := ∀ (s : PSt) (F : FRm) (fr : List FRm) (S : List Int), tst F.1 = true → F.2.1 = 0 → F.2.2.1 = true → low 5 F.2.2.2.2 S → Rt tk w (s.1, s.2.1, s.2.2, S, F :: fr, false) 3 S (mkF0 F) fr (QF tk) (pG tk w n 2 s)
def EqB (tk : TkF) (w n : Nat) : Prop := ∀ (s : PSt) (F : FRm) (fr : List FRm) (S : List Int), tst F.1 = true → F.2.1 = 0 → F.2.2.1 = true → low 2 F.2.2.2.2 S → Rt tk w (s.1, s.2.1, s.2.2, S, F :: fr, false) 2 S (mkF0 F) fr (fun ph k => QF tk ph k ∧ sAnd tk k = none) (pG tk w n 1 s)
def EqT (tk : TkF) (w n : Nat) : Prop := ∀ (s : PSt) (F : FRm) (fr : List FRm) (S : List Int), tst F.1 = true → F.2.1 = 0 → F.2.2.1 = true → low 1 F.2.2.2.2 S → Rt tk w (s.1, s.2.1, s.2.2, S, F :: fr, false) 1 S (mkF0 F) fr (fun ph k => (QF tk ph k ∧ sAnd tk k = none) ∧ sOr tk k = none) (pG tk w n 0 s)
/-- the machine where P has failed at a missing sign -/
theorem Af.wrong {tk : TkF} {w : Nat} {st : MSt} {l : Nat} {S : List Int} {F : FRm} {fr : List FRm} {s : PSt} (a : Af tk w st l S F fr s) (h : (tk s.1).1 ≠ 4 → ∀ o c ops, mGo tk s.1 o c ops F fr = .inr (.inr (1, (tk s.1).2.2))) : Gs tk w st (.inr (.inr (wrg tk s.1))) := by
  obtain ⟨H, cm, a1, a2, a3⟩ := a
  refine a1.tr (Gs.one ?_)
  show mGo tk s.1 _ _ _ F fr = _
  unfold wrg
  by_cases z : (tk s.1).1 = 4
  · rw [if_pos z]
    unfold mGo
    rw [if_pos z]
  · rw [if_neg z]
    exact h z _ _ _
theorem Af.go {tk : TkF} {w : Nat} {st : MSt} {l : Nat} {S : List Int} {F : FRm} {fr : List FRm} {s : PSt} (a : Af tk w st l S F fr s) (hS : low l F.2.2.2.2 S) {r : MRs} (h : ∀ ops c o, jn l F.2.2.2.2 ops c o = (S, s.2.2, s.2.1) → mGo tk s.1 o c ops F fr = r) : Gs tk w st r := by
  obtain ⟨H, cm, a1, a2, a3⟩ := a
  refine a1.tr (Gs.one ?_)
  show mGo tk s.1 _ _ _ F fr = _
  refine h _ _ _ ?_
  rw [jn_spec hS H cm s.2.1 a3, a2]
