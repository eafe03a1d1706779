/-! ===== L2: the statements of a store, as a value ===== -/
def sft (c : List (Int × Int)) (s : PSt) : PSt := (s.1, s.2.1, c ++ s.2.2)
def pmp (c : List (Int × Int)) : PRs → PRs
  | some (.inl s) => some (.inl (sft c s))
  | some (.inr x) => some (.inr x)
  | none => none
theorem pmp_bP (c : List (Int × Int)) {r : PRs} {g : PSt → PRs} (h : ∀ s, g (sft c s) = pmp c (g s)) : bP (pmp c r) g = pmp c (bP r g) := by
  rcases r with _ | (s | x)
  · rfl
  · exact h s
  · rfl
theorem sft_adc (c : List (Int × Int)) (op : Int) (s : PSt) : adc op (sft c s) = sft c (adc op s) := by
  unfold adc sft
  dsimp only
  rw [List.append_assoc]
theorem sft_clo (c : List (Int × Int)) (s : PSt) : clo (sft c s) = sft c (clo s) := rfl
theorem sft_opn (tk : TkF) (c : List (Int × Int)) (s : PSt) : opn tk (sft c s) = pmp c (opn tk s) := by
  unfold opn
  show (if s.2.1 = 7 then _ else _) = _
  split <;> rfl
theorem sft_tks (tk : TkF) (sg : Int) (c : List (Int × Int)) (s : PSt) : tks tk sg (sft c s) = pmp c (tks tk sg s) := by
  unfold tks
  show (if isG tk s.1 sg = true then _ else _) = _
  split <;> rfl
theorem plp_acc (c : List (Int × Int)) (f : PSt → PRs) (sep : Nat → Option Int) (hf : ∀ s, f (sft c s) = pmp c (f s)) : ∀ (j : Nat) (s : PSt), plp f sep j (sft c s) = pmp c (plp f sep j s)
  | 0, s => by
    show (match sep s.1 with | none => _ | some _ => _) = pmp c (match sep s.1 with | none => _ | some _ => _)
    cases sep s.1 <;> rfl
  | j + 1, s => by
    show (match sep s.1 with | none => _ | some op => bP (f (sft c (s.1 + 1, s.2))) fun s' => plp f sep j (adc op s')) = pmp c (match sep s.1 with | none => _ | some op => bP (f (s.1 + 1, s.2)) fun s' => plp f sep j (adc op s'))
    cases sep s.1 with
    | none => rfl
    | some op =>
      dsimp only
      rw [hf]
      exact pmp_bP c (fun s' => by rw [sft_adc]; exact plp_acc c f sep hf j _)
theorem pmp_ok (c : List (Int × Int)) (s : PSt) : some (.inl (sft c s)) = pmp c (some (.inl s)) := rfl
theorem pG_acc (tk : TkF) (w : Nat) (c : List (Int × Int)) : ∀ (n j : Nat) (s : PSt), pG tk w n j (sft c s) = pmp c (pG tk w n j s)
  | 0, j, s => by unfold pG; rfl
  | n + 1, j, s => by
    have ih := pG_acc tk w c n
    match j with
    | 0 =>
      show bP (pG tk w n 1 (sft c s)) _ = pmp c (bP (pG tk w n 1 s) _)
      rw [ih]
      exact pmp_bP c (fun s' => plp_acc c _ _ (ih 1) _ s')
    | 1 =>
      show bP (pG tk w n 2 (sft c s)) _ = pmp c (bP (pG tk w n 2 s) _)
      rw [ih]
      exact pmp_bP c (fun s' => plp_acc c _ _ (ih 2) _ s')
    | 2 =>
      show (if isW tk s.1 25 = true then bP (opn tk (sft c s)) _ else if isG tk s.1 91 = true then bP (opn tk (sft c s)) _ else if isW tk s.1 26 = true then some (.inl (adc 30 (sft c (s.1 + 1, s.2)))) else bP (pG tk w n 4 (sft c s)) _) = pmp c (if isW tk s.1 25 = true then _ else if isG tk s.1 91 = true then _ else if isW tk s.1 26 = true then _ else _)
      split
      · rw [sft_opn]
        refine pmp_bP c (fun s1 => ?_)
        rw [ih]
        exact pmp_bP c (fun s2 => by rw [sft_clo, sft_adc]; rfl)
      · split
        · rw [sft_opn]
          refine pmp_bP c (fun s1 => ?_)
          try dsimp only
          rw [ih]
          refine pmp_bP c (fun s2 => ?_)
          try dsimp only
          rw [sft_tks]
          exact pmp_bP c (fun s3 => by rw [sft_clo]; rfl)
        · split
          · rw [sft_adc]; rfl
          · rw [ih]
            exact pmp_bP c (fun s1 => ih 3 s1)
    | 3 =>
      show (match sCmp tk s.1 with | none => _ | some op => bP (pG tk w n 4 (sft c (s.1 + 1, s.2))) _) = pmp c (match sCmp tk s.1 with | none => _ | some op => _)
      cases sCmp tk s.1 with
      | none => rfl
      | some op =>
        try dsimp only
        rw [ih]
        exact pmp_bP c (fun s1 => by rw [sft_adc]; rfl)
    | 4 =>
      show bP (pG tk w n 5 (sft c s)) _ = pmp c (bP (pG tk w n 5 s) _)
      rw [ih]
      exact pmp_bP c (fun s' => plp_acc c _ _ (ih 5) _ s')
    | 5 =>
      show bP (pG tk w n 6 (sft c s)) _ = pmp c (bP (pG tk w n 6 s) _)
      rw [ih]
      exact pmp_bP c (fun s' => plp_acc c _ _ (ih 6) _ s')
    | 6 =>
      show (if isG tk s.1 40 = true then bP (opn tk (sft c s)) _ else if (tk s.1).1 = 2 then some (.inl (s.1 + 1, s.2.1, (c ++ s.2.2) ++ [(0, (tk s.1).2.1)])) else if isW tk s.1 22 = true then pG tk w n 7 (sft c (s.1 + 1, s.2)) else if isW tk s.1 23 = true then pG tk w n 8 (sft c (s.1 + 1, s.2)) else if isW tk s.1 24 = true then pG tk w n 9 (sft c (s.1 + 1, s.2)) else if (tk s.1).1 = 1 then (match fct w (tk s.1).2.1 with | some o => some (.inl (adc o (sft c (s.1 + 1, s.2)))) | none => _) else _) = pmp c (if isG tk s.1 40 = true then _ else if (tk s.1).1 = 2 then _ else if isW tk s.1 22 = true then _ else if isW tk s.1 23 = true then _ else if isW tk s.1 24 = true then _ else if (tk s.1).1 = 1 then _ else _)
      split
      · rw [sft_opn]
        refine pmp_bP c (fun s1 => ?_)
        try dsimp only
        rw [ih]
        refine pmp_bP c (fun s2 => ?_)
        try dsimp only
        rw [sft_tks]
        exact pmp_bP c (fun s3 => by rw [sft_clo]; rfl)
      · split
        · rw [List.append_assoc]; rfl
        · split
          · exact ih 7 _
          · split
            · exact ih 8 _
            · split
              · exact ih 9 _
              · split
                · cases fct w (tk s.1).2.1 with
                  | none => rfl
                  | some o => dsimp only; rw [sft_adc]; rfl
                · rfl
    | j + 7 =>
      show (if isG tk s.1 40 = true then bP (opn tk (sft c s)) _ else _) = pmp c (if isG tk s.1 40 = true then _ else _)
      split
      · rw [sft_opn]
        refine pmp_bP c (fun s0 => ?_)
        try dsimp only
        have e0 : (if j + 7 = 9 then bP (pG tk w n 0 (sft c s0)) (tks tk 44) else some (.inl (sft c s0))) = pmp c (if j + 7 = 9 then bP (pG tk w n 0 s0) (tks tk 44) else some (.inl s0)) := by
          split
          · rw [ih]
            exact pmp_bP c (fun s1 => sft_tks tk 44 c s1)
          · rfl
        rw [e0]
        refine pmp_bP c (fun s1 => ?_)
        try dsimp only
        rw [ih]
        refine pmp_bP c (fun s2 => ?_)
        try dsimp only
        rw [sft_tks]
        refine pmp_bP c (fun s3 => ?_)
        try dsimp only
        rw [ih]
        refine pmp_bP c (fun s4 => ?_)
        try dsimp only
        rw [sft_tks]
        exact pmp_bP c (fun s5 => by rw [sft_clo, sft_adc]; rfl)
      · rfl
theorem pG_acc0 (tk : TkF) (w n j k o : Nat) (c : List (Int × Int)) : pG tk w n j (k, o, c) = pmp c (pG tk w n j (k, o, [])) := by
  have := pG_acc tk w c n j (k, o, [])
  unfold sft at this
  dsimp only at this
  rw [List.append_nil] at this
  exact this
/-! the statements -/
def nloL : List Int := [60, 1, 1, 1, 30, 1, 0, 1, 0, 0]
def nhiL : List Int := [200, 16, 30, 60, 60, 8, 4, 6, 99, 100]
def nu0L : List Int := [0, 4, 3, 8, 30, 4, 2, 2, 0, 0]
def sNum (tk : TkF) (k : Nat) (lo hi : Int) : Int ⊕ (Int × Int) := if (tk k).1 ≠ 2 then .inr (wrg tk k) else if (tk k).2.1 < lo ∨ hi < (tk k).2.1 then .inr (4, (tk k).2.2) else .inl (tk k).2.1
abbrev SSt : Type := Nat × Nat × List Int × (Nat → List (Int × Int))
def sEn (tk : TkF) (k n : Nat) (nu : List Int) (ts : Nat → List (Int × Int)) : SSt ⊕ (Int × Int) := if isG tk k 59 = true then .inl (k + 1, n + 1, nu, ts) else .inr (wrg tk k)
def tsU (ts : Nat → List (Int × Int)) (w : Nat) (c : List (Int × Int)) : Nat → List (Int × Int) := fun x => if x = w then c else ts x
/-- what a number is told for -/
def sTn (tk : TkF) (w : Nat) (s : SSt) : SSt ⊕ (Int × Int) := match sNum tk (s.1 + 1) (nloL.getD w 0) (nhiL.getD w 0) with
  | .inr x => .inr x
  | .inl v => sEn tk (s.1 + 2) s.2.1 (s.2.2.1.set w v) s.2.2.2
/-- a test -/
def sTt (tk : TkF) (w : Nat) (s : SSt) : SSt ⊕ (Int × Int) := if s.2.2.2 w ≠ [] then .inr (6, (tk s.1).2.2) else match pG tk w 100 0 (s.1 + 1, 0, []) with
  | none => .inr (0, 0)
  | some (.inr x) => .inr x
  | some (.inl q) => sEn tk q.1 s.2.1 s.2.2.1 (tsU s.2.2.2 w q.2.2)
def sSt (tk : TkF) (s : SSt) : SSt ⊕ (Int × Int) :=
  if s.2.1 = 40 then .inr (6, (tk s.1).2.2) else
  if (tk s.1).1 = 1 ∧ (0 ≤ (tk s.1).2.1 ∧ (tk s.1).2.1 ≤ 12) ∧ ((tk s.1).2.1 = 0 ↔ s.2.1 = 0) then
    (if (tk s.1).2.1 < 10 then sTn tk (tk s.1).2.1.toNat s else sTt tk ((tk s.1).2.1.toNat - 10) s)
  else .inr (wrg tk s.1)
def sLp (tk : TkF) : Nat → SSt → SSt ⊕ (Int × Int)
  | 0, _ => .inr (0, 0)
  | f + 1, s => if (tk s.1).1 = 0 then (if s.2.1 = 0 then .inr (wrg tk s.1) else .inl s) else match sSt tk s with
    | .inl t => sLp tk f t
    | .inr x => .inr x
def sAll (T : List Int) : SSt ⊕ (Int × Int) := sLp (tkT T) 42 (0, 0, nu0L, fun _ => [])
/-- what is always true of the statements read so far -/
def SOk (m : Nat) (s : SSt) : Prop := s.1 ≤ m ∧ s.2.1 ≤ 40 ∧ s.2.2.1.length = 10 ∧ (∀ i, i < 10 → (i = 0 → s.2.1 ≠ 0) → nloL.getD i 0 ≤ s.2.2.1.getD i 0 ∧ s.2.2.1.getD i 0 ≤ nhiL.getD i 0) ∧ (s.2.1 = 0 → s.2.2.1 = nu0L) ∧ (∀ w, w ≤ 2 → tsOk w (s.2.2.2 w)) ∧ ∀ w, 2 < w → s.2.2.2 w = []
theorem sEn_in {tk : TkF} {k n : Nat} {nu : List Int} {ts : Nat → List (Int × Int)} {t : SSt} (h : sEn tk k n nu ts = .inl t) : isG tk k 59 = true ∧ t = (k + 1, n + 1, nu, ts) := by
  unfold sEn at h
  split at h
  · rename_i c; exact ⟨c, (Sum.inl.inj h).symm⟩
  · cases h
theorem sNum_in {tk : TkF} {k : Nat} {lo hi v : Int} (h : sNum tk k lo hi = .inl v) : (tk k).1 = 2 ∧ lo ≤ v ∧ v ≤ hi ∧ v = (tk k).2.1 := by
  unfold sNum at h
  split at h
  · cases h
  · rename_i c
    split at h
    · cases h
    · rename_i c2
      have := Sum.inl.inj h
      refine ⟨Classical.byContradiction c, ?_, ?_, this.symm⟩ <;> omega
theorem pG_test {tk : TkF} {m w k : Nat} (T : TkL tk m) (hw : w ≤ 2) (hv : ∀ k, (tk k).1 = 2 → 0 ≤ (tk k).2.1 ∧ (tk k).2.1 ≤ 9999) (hm : m ≤ 1600) (hk : k ≤ m) {q : PSt} (h : pG tk w 100 0 (k, 0, []) = some (.inl q)) : k < q.1 ∧ q.1 ≤ m ∧ q.2.2 ≠ [] ∧ tsOk w q.2.2 ∧ q.2.2.length + k ≤ q.1 := by
  obtain ⟨a1, a2, a3⟩ := pG_good T w 100 0 (k, 0, []) hk q h
  obtain ⟨d, b1, b2, b3, b4⟩ := pG_ty hw hv 100 0 (k, 0, []) (Nat.zero_le 9) (Nat.zero_le 7) q h
  have b1 : q.2.2 = d := by rw [b1]; exact List.nil_append d
  have b2 : d.length + k ≤ q.1 := b2
  have b5 : tyr d [] = some [true] := b4 [] (Nat.zero_le _)
  have ne : d ≠ [] := fun e => by
    rw [e] at b5
    have : tyr [] [] = some ([] : List Bool) := rfl
    rw [this] at b5
    cases b5
  rw [b1]
  exact ⟨a1, a2, ne, ⟨by omega, fun c hc => (b3 c hc).1, fun c hc => (b3 c hc).2, fun _ => b5⟩, b2⟩
theorem setD_at (l : List Int) (i j : Nat) (v : Int) (hi : i < l.length) : (l.set i v).getD j 0 = if j = i then v else l.getD j 0 := by
  rw [List.getD_eq_getElem?_getD, List.getElem?_set]
  by_cases e : i = j
  · rw [if_pos e, if_pos e.symm]
    rw [if_pos (by omega)]; rfl
  · rw [if_neg e, if_neg (fun z => e z.symm), ← List.getD_eq_getElem?_getD]
theorem SOk.step {tk : TkF} {m : Nat} {s t : SSt} (T : TkL tk m) (hv : ∀ k, (tk k).1 = 2 → 0 ≤ (tk k).2.1 ∧ (tk k).2.1 ≤ 9999) (hm : m ≤ 1600) (S : SOk m s) (h : sSt tk s = .inl t) : SOk m t ∧ s.1 < t.1 ∧ t.2.1 = s.2.1 + 1 := by
  obtain ⟨s1, s2, s3, s4, s5, s6, s7⟩ := S
  unfold sSt at h
  split at h
  · cases h
  rename_i n40
  split at h
  · rename_i c
    obtain ⟨c1, c2, c3⟩ := c
    have kl := T.lt s1 (Or.inl c1)
    split at h
    · rename_i c10
      unfold sTn at h
      split at h
      · cases h
      · rename_i v ev
        obtain ⟨e1, e2, e3, -⟩ := sNum_in ev
        obtain ⟨e4, e5⟩ := sEn_in h
        have k2 := T.lt (by omega) (Or.inr (Or.inl e1))
        have k3 := T.lt (by omega) (Or.inr (Or.inr (isG_kd e4).1))
        have hw : (tk s.1).2.1.toNat < 10 := by omega
        rw [e5]
        refine ⟨⟨by show s.1 + 2 + 1 ≤ m; omega, by show s.2.1 + 1 ≤ 40; omega, by show (s.2.2.1.set _ _).length = 10; rw [List.length_set]; exact s3, fun i hi h0 => ?_, fun z => absurd z (Nat.succ_ne_zero _), s6, s7⟩, by show s.1 < s.1 + 2 + 1; omega, rfl⟩
        show nloL.getD i 0 ≤ (s.2.2.1.set (tk s.1).2.1.toNat v).getD i 0 ∧ (s.2.2.1.set (tk s.1).2.1.toNat v).getD i 0 ≤ nhiL.getD i 0
        rw [setD_at _ _ _ _ (by omega)]
        by_cases ei : i = (tk s.1).2.1.toNat
        · rw [if_pos ei, ei]; exact ⟨e2, e3⟩
        · rw [if_neg ei]
          refine s4 i hi (fun i0 n0 => ei ?_)
          have := c3.mpr n0
          omega
    · rename_i c10
      unfold sTt at h
      split at h
      · cases h
      rename_i ne
      split at h
      · cases h
      · cases h
      · rename_i q eq
        have hw2 : (tk s.1).2.1.toNat - 10 ≤ 2 := by omega
        obtain ⟨a1, a2, a3, a4, a5⟩ := pG_test T hw2 hv hm (show s.1 + 1 ≤ m by omega) eq
        obtain ⟨e4, e5⟩ := sEn_in h
        have k3 := T.lt a2 (Or.inr (Or.inr (isG_kd e4).1))
        rw [e5]
        have n0 : s.2.1 ≠ 0 := fun z => by have := c3.mpr z; omega
        refine ⟨⟨by show q.1 + 1 ≤ m; omega, by show s.2.1 + 1 ≤ 40; omega, s3, fun i hi h0 => s4 i hi (fun _ => n0), fun z => absurd z (Nat.succ_ne_zero _), fun w hw => ?_, fun w hw => ?_⟩, by show s.1 < q.1 + 1; omega, rfl⟩
        · show tsOk w (tsU s.2.2.2 _ q.2.2 w)
          unfold tsU
          split
          · rename_i ew; rw [ew]; exact a4
          · exact s6 w hw
        · show tsU s.2.2.2 _ q.2.2 w = []
          unfold tsU
          rw [if_neg (by omega)]
          exact s7 w hw
  · cases h
theorem sOk0 (m : Nat) : SOk m (0, 0, nu0L, fun _ => []) := ⟨Nat.zero_le _, by decide, rfl, fun i hi h0 => by
  have hi : i < 10 := hi
  have h0 : i ≠ 0 := fun z => h0 z rfl
  match i, hi, h0 with
  | 1, _, _ => decide
  | 2, _, _ => decide
  | 3, _, _ => decide
  | 4, _, _ => decide
  | 5, _, _ => decide
  | 6, _, _ => decide
  | 7, _, _ => decide
  | 8, _, _ => decide
  | 9, _, _ => decide, fun _ => rfl, fun w _ => ⟨Nat.zero_le _, fun c hc => absurd hc (by simp), fun c hc => absurd hc (by simp), fun z => absurd rfl z⟩, fun w _ => rfl⟩
theorem sLp_ok {tk : TkF} {m : Nat} (T : TkL tk m) (hv : ∀ k, (tk k).1 = 2 → 0 ≤ (tk k).2.1 ∧ (tk k).2.1 ≤ 9999) (hm : m ≤ 1600) : ∀ (f : Nat) (s t : SSt), SOk m s → sLp tk f s = .inl t → SOk m t ∧ t.2.1 ≠ 0
  | 0, s, t, _, h => by cases h
  | f + 1, s, t, S, h => by
    unfold sLp at h
    split at h
    · split at h
      · cases h
      · rename_i n0
        rw [← Sum.inl.inj h]
        exact ⟨S, n0⟩
    · split at h
      · rename_i u eu
        exact sLp_ok T hv hm f u t (S.step T hv hm eu).1 h
      · cases h
