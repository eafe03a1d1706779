/-! ===== L2: the parser: where it goes, and that it ends ===== -/
/-- the last token that is looked at: the text's end, or a broken one -/
def TkL (tk : TkF) (m : Nat) : Prop := ((tk m).1 = 0 ∨ (tk m).1 = 4) ∧ ∀ k, k < m → (tk k).1 = 1 ∨ (tk k).1 = 2 ∨ (tk k).1 = 3
theorem isW_kd {tk : TkF} {k : Nat} {x : Int} (h : isW tk k x = true) : (tk k).1 = 1 ∧ (tk k).2.1 = x := by unfold isW at h; simpa using h
theorem isG_kd {tk : TkF} {k : Nat} {x : Int} (h : isG tk k x = true) : (tk k).1 = 3 ∧ (tk k).2.1 = x := by unfold isG at h; simpa using h
theorem TkL.lt {tk : TkF} {m k : Nat} (T : TkL tk m) (hk : k ≤ m) (h : (tk k).1 = 1 ∨ (tk k).1 = 2 ∨ (tk k).1 = 3) : k < m := by
  by_cases z : k = m
  · subst z
    have := T.1
    omega
  · omega
theorem sep_kd {tk : TkF} {k : Nat} {op : Int} : (sOr tk k = some op → (tk k).1 = 1 ∧ op = 42) ∧ (sAnd tk k = some op → (tk k).1 = 1 ∧ op = 41) ∧ (sSum tk k = some op → (tk k).1 = 3 ∧ (op = 31 ∨ op = 32)) ∧ (sPro tk k = some op → (tk k).1 = 3 ∧ (op = 33 ∨ op = 34 ∨ op = 35)) ∧ (sCmp tk k = some op → (tk k).1 = 3 ∧ (op = 38 ∨ op = 39 ∨ op = 40)) := by
  unfold sOr sAnd sSum sPro sCmp
  refine ⟨fun h => ?_, fun h => ?_, fun h => ?_, fun h => ?_, fun h => ?_⟩
  · split at h
    · rename_i c; exact ⟨(isW_kd c).1, (Option.some.inj h).symm⟩
    · cases h
  · split at h
    · rename_i c; exact ⟨(isW_kd c).1, (Option.some.inj h).symm⟩
    · cases h
  · split at h
    · rename_i c; exact ⟨(isG_kd c).1, Or.inl (Option.some.inj h).symm⟩
    · split at h
      · rename_i c; exact ⟨(isG_kd c).1, Or.inr (Option.some.inj h).symm⟩
      · cases h
  · split at h
    · rename_i c; exact ⟨(isG_kd c).1, Or.inl (Option.some.inj h).symm⟩
    · split at h
      · rename_i c; exact ⟨(isG_kd c).1, Or.inr (Or.inl (Option.some.inj h).symm)⟩
      · split at h
        · rename_i c; exact ⟨(isG_kd c).1, Or.inr (Or.inr (Option.some.inj h).symm)⟩
        · cases h
  · split at h
    · rename_i c; exact ⟨(isG_kd c).1, Or.inl (Option.some.inj h).symm⟩
    · split at h
      · rename_i c; exact ⟨(isG_kd c).1, Or.inr (Or.inl (Option.some.inj h).symm)⟩
      · split at h
        · rename_i c; exact ⟨(isG_kd c).1, Or.inr (Or.inr (Option.some.inj h).symm)⟩
        · cases h
/-- what a reader that ends leaves: it went on, not behind the last token; as many are open as before -/
def goodP (m : Nat) (s : PSt) (r : PRs) : Prop := ∀ s', r = some (.inl s') → s.1 < s'.1 ∧ s'.1 ≤ m ∧ s'.2.1 = s.2.1
theorem goodP.bind {m : Nat} {s : PSt} {r : PRs} {g : PSt → PRs} (P : PSt → Prop) (h1 : ∀ s1, r = some (.inl s1) → P s1) (h2 : ∀ s1, P s1 → goodP m s (g s1)) : goodP m s (bP r g) := by
  intro s' e
  rcases r with _ | (s1 | x)
  · cases e
  · exact h2 s1 (h1 s1 rfl) s' e
  · cases e
theorem goodP.fail (m : Nat) (s : PSt) (x : Int × Int) : goodP m s (some (.inr x)) := fun s' e => by cases e
theorem opn_ok {tk : TkF} {s s1 : PSt} (h : opn tk s = some (.inl s1)) : s.2.1 ≠ 7 ∧ s1 = (s.1 + 1, s.2.1 + 1, s.2.2) := by
  unfold opn at h
  split at h
  · cases h
  · rename_i c
    exact ⟨c, (Sum.inl.inj (Option.some.inj h)).symm⟩
theorem tks_ok {tk : TkF} {sg : Int} {s s1 : PSt} (h : tks tk sg s = some (.inl s1)) : isG tk s.1 sg = true ∧ s1 = (s.1 + 1, s.2) := by
  unfold tks at h
  split at h
  · rename_i c
    exact ⟨c, (Sum.inl.inj (Option.some.inj h)).symm⟩
  · cases h
theorem plp_good {tk : TkF} {m : Nat} (f : PSt → PRs) (sep : Nat → Option Int) (hs : ∀ k op, sep k = some op → k ≤ m → k < m) (hf : ∀ s, s.1 ≤ m → goodP m s (f s)) : ∀ (j : Nat) (s s' : PSt), s.1 ≤ m → plp f sep j s = some (.inl s') → s.1 ≤ s'.1 ∧ s'.1 ≤ m ∧ s'.2.1 = s.2.1 ∧ sep s'.1 = none
  | 0, s, s', h0, e => by
    unfold plp at e
    split at e
    · rename_i c
      have := Sum.inl.inj (Option.some.inj e)
      rw [← this]; exact ⟨Nat.le_refl _, h0, rfl, c⟩
    · cases e
  | j + 1, s, s', h0, e => by
    unfold plp at e
    split at e
    · rename_i c
      have := Sum.inl.inj (Option.some.inj e)
      rw [← this]; exact ⟨Nat.le_refl _, h0, rfl, c⟩
    · rename_i op c
      have hlt := hs _ _ c h0
      have g := hf (s.1 + 1, s.2) hlt
      rcases hr : f (s.1 + 1, s.2) with _ | (s1 | x)
      · rw [hr] at e; cases e
      · rw [hr] at e g
        obtain ⟨g1, g2, g3⟩ := g s1 rfl
        obtain ⟨k1, k2, k3, k4⟩ := plp_good (tk := tk) f sep hs hf j (adc op s1) s' g2 e
        have k1' : s1.1 ≤ s'.1 := k1
        have k3' : s'.2.1 = s1.2.1 := k3
        have g1' : s.1 + 1 < s1.1 := g1
        have g3' : s1.2.1 = s.2.1 := g3
        exact ⟨by omega, k2, by rw [k3', g3'], k4⟩
      · rw [hr] at e; cases e
theorem pG_good {tk : TkF} {m : Nat} (T : TkL tk m) (w : Nat) : ∀ (n j : Nat) (s : PSt), s.1 ≤ m → goodP m s (pG tk w n j s)
  | 0, j, s, _ => fun s' e => by unfold pG at e; cases e
  | n + 1, j, s, h0 => by
    have ih := pG_good T w n
    have lp : ∀ (j : Nat) (sep : Nat → Option Int), (∀ k op, sep k = some op → (tk k).1 = 1 ∨ (tk k).1 = 2 ∨ (tk k).1 = 3) → goodP m s (bP (pG tk w n j s) (plp (pG tk w n j) sep 1600)) := fun j sep hs =>
      goodP.bind (fun s1 => s.1 < s1.1 ∧ s1.1 ≤ m ∧ s1.2.1 = s.2.1) (ih j s h0) (fun s1 hs1 s' e => by
        obtain ⟨k1, k2, k3, -⟩ := plp_good (tk := tk) (pG tk w n j) sep (fun k op c hk => T.lt hk (hs k op c)) (fun s2 h2 => ih j s2 h2) 1600 s1 s' hs1.2.1 e
        exact ⟨by omega, k2, by rw [k3]; exact hs1.2.2⟩)
    have op1 : ∀ s1, opn tk s = some (.inl s1) → ((tk s.1).1 = 1 ∨ (tk s.1).1 = 2 ∨ (tk s.1).1 = 3) → s.1 < s1.1 ∧ s1.1 ≤ m ∧ s1.2.1 = s.2.1 + 1 := fun s1 e hk => by
      obtain ⟨-, rfl⟩ := opn_ok e
      have := T.lt h0 hk
      exact ⟨Nat.lt_succ_self _, this, rfl⟩
    have st : ∀ (s1 s2 : PSt) (sg : Int), s1.1 ≤ m → tks tk sg s1 = some (.inl s2) → s1.1 < s2.1 ∧ s2.1 ≤ m ∧ s2.2.1 = s1.2.1 := fun s1 s2 sg h1 e => by
      obtain ⟨c, rfl⟩ := tks_ok e
      have := T.lt h1 (Or.inr (Or.inr (isG_kd c).1))
      exact ⟨Nat.lt_succ_self _, this, rfl⟩
    have one : ((tk s.1).1 = 1 ∨ (tk s.1).1 = 2 ∨ (tk s.1).1 = 3) → ∀ c, goodP m s (some (.inl (s.1 + 1, s.2.1, c))) := fun hk c s' e => by
      have := Sum.inl.inj (Option.some.inj e)
      rw [← this]
      exact ⟨Nat.lt_succ_self _, T.lt h0 hk, rfl⟩
    have call : ∀ j, goodP m s (if isG tk s.1 40 = true then bP (opn tk s) fun s0 => bP (if j = 9 then bP (pG tk w n 0 s0) (tks tk 44) else some (.inl s0)) fun s1 => bP (pG tk w n 4 s1) fun s2 => bP (tks tk 44 s2) fun s3 => bP (pG tk w n 4 s3) fun s4 => bP (tks tk 41 s4) fun s5 => some (.inl (adc (if j = 7 then 36 else if j = 8 then 37 else 44) (clo s5))) else some (.inr (wrg tk s.1))) := fun j => by
      split
      · rename_i c
        refine goodP.bind (fun s1 => s.1 < s1.1 ∧ s1.1 ≤ m ∧ s1.2.1 = s.2.1 + 1) (fun s1 e => op1 s1 e (Or.inr (Or.inr (isG_kd c).1))) (fun s0 h0' => ?_)
        refine goodP.bind (fun s1 => s.1 < s1.1 ∧ s1.1 ≤ m ∧ s1.2.1 = s.2.1 + 1) (fun s1 e => ?_) (fun s1 h1 => ?_)
        · split at e
          · rcases hr : pG tk w n 0 s0 with _ | (sa | x)
            · rw [hr] at e; cases e
            · rw [hr] at e
              have a := ih 0 s0 h0'.2.1 sa hr
              have b := st sa s1 44 a.2.1 e
              exact ⟨by omega, b.2.1, by rw [b.2.2, a.2.2, h0'.2.2]⟩
            · rw [hr] at e; cases e
          · have := Sum.inl.inj (Option.some.inj e)
            rw [← this]; exact h0'
        · refine goodP.bind (fun s2 => s.1 < s2.1 ∧ s2.1 ≤ m ∧ s2.2.1 = s.2.1 + 1) (fun s2 e => ?_) (fun s2 h2 => ?_)
          · have a := ih 4 s1 h1.2.1 s2 e
            exact ⟨by omega, a.2.1, by rw [a.2.2, h1.2.2]⟩
          · refine goodP.bind (fun s3 => s.1 < s3.1 ∧ s3.1 ≤ m ∧ s3.2.1 = s.2.1 + 1) (fun s3 e => ?_) (fun s3 h3 => ?_)
            · have a := st s2 s3 44 h2.2.1 e
              exact ⟨by omega, a.2.1, by rw [a.2.2, h2.2.2]⟩
            · refine goodP.bind (fun s4 => s.1 < s4.1 ∧ s4.1 ≤ m ∧ s4.2.1 = s.2.1 + 1) (fun s4 e => ?_) (fun s4 h4 => ?_)
              · have a := ih 4 s3 h3.2.1 s4 e
                exact ⟨by omega, a.2.1, by rw [a.2.2, h3.2.2]⟩
              · refine goodP.bind (fun s5 => s.1 < s5.1 ∧ s5.1 ≤ m ∧ s5.2.1 = s.2.1 + 1) (fun s5 e => ?_) (fun s5 h5 s' e => ?_)
                · have a := st s4 s5 41 h4.2.1 e
                  exact ⟨by omega, a.2.1, by rw [a.2.2, h4.2.2]⟩
                · have := Sum.inl.inj (Option.some.inj e)
                  rw [← this]
                  exact ⟨h5.1, h5.2.1, by show s5.2.1 - 1 = s.2.1; omega⟩
      · exact goodP.fail m s _
    match j with
    | 0 => exact lp 1 (sOr tk) (fun k op c => Or.inl (sep_kd.1 c).1)
    | 1 => exact lp 2 (sAnd tk) (fun k op c => Or.inl (sep_kd.2.1 c).1)
    | 2 =>
      show goodP m s (if isW tk s.1 25 = true then _ else _)
      split
      · rename_i c
        refine goodP.bind (fun s1 => s.1 < s1.1 ∧ s1.1 ≤ m ∧ s1.2.1 = s.2.1 + 1) (fun s1 e => op1 s1 e (Or.inl (isW_kd c).1)) (fun s1 h1 => ?_)
        refine goodP.bind (fun s2 => s.1 < s2.1 ∧ s2.1 ≤ m ∧ s2.2.1 = s.2.1 + 1) (fun s2 e => ?_) (fun s2 h2 s' e => ?_)
        · have a := ih 2 s1 h1.2.1 s2 e
          exact ⟨by omega, a.2.1, by rw [a.2.2, h1.2.2]⟩
        · have := Sum.inl.inj (Option.some.inj e)
          rw [← this]
          exact ⟨h2.1, h2.2.1, by show s2.2.1 - 1 = s.2.1; omega⟩
      · split
        · rename_i c
          refine goodP.bind (fun s1 => s.1 < s1.1 ∧ s1.1 ≤ m ∧ s1.2.1 = s.2.1 + 1) (fun s1 e => op1 s1 e (Or.inr (Or.inr (isG_kd c).1))) (fun s1 h1 => ?_)
          refine goodP.bind (fun s2 => s.1 < s2.1 ∧ s2.1 ≤ m ∧ s2.2.1 = s.2.1 + 1) (fun s2 e => ?_) (fun s2 h2 => ?_)
          · have a := ih 0 s1 h1.2.1 s2 e
            exact ⟨by omega, a.2.1, by rw [a.2.2, h1.2.2]⟩
          · refine goodP.bind (fun s3 => s.1 < s3.1 ∧ s3.1 ≤ m ∧ s3.2.1 = s.2.1 + 1) (fun s3 e => ?_) (fun s3 h3 s' e => ?_)
            · have a := st s2 s3 93 h2.2.1 e
              exact ⟨by omega, a.2.1, by rw [a.2.2, h2.2.2]⟩
            · have := Sum.inl.inj (Option.some.inj e)
              rw [← this]
              exact ⟨h3.1, h3.2.1, by show s3.2.1 - 1 = s.2.1; omega⟩
        · split
          · rename_i c
            exact one (Or.inl (isW_kd c).1) _
          · refine goodP.bind (fun s1 => s.1 < s1.1 ∧ s1.1 ≤ m ∧ s1.2.1 = s.2.1) (ih 4 s h0) (fun s1 h1 s' e => ?_)
            have a := ih 3 s1 h1.2.1 s' e
            exact ⟨by omega, a.2.1, by rw [a.2.2, h1.2.2]⟩
    | 3 =>
      show goodP m s (match sCmp tk s.1 with | none => some (.inr (wrg tk s.1)) | some op => bP (pG tk w n 4 (s.1 + 1, s.2)) fun s1 => some (.inl (adc op s1)))
      split
      · exact goodP.fail m s _
      · rename_i op c
        have hlt := T.lt h0 (Or.inr (Or.inr (sep_kd.2.2.2.2 c).1))
        refine goodP.bind (fun s1 => s.1 < s1.1 ∧ s1.1 ≤ m ∧ s1.2.1 = s.2.1) (fun s1 e => ?_) (fun s1 h1 s' e => ?_)
        · have a := ih 4 (s.1 + 1, s.2) hlt s1 e
          have a1 : s.1 + 1 < s1.1 := a.1
          exact ⟨by omega, a.2.1, a.2.2⟩
        · have := Sum.inl.inj (Option.some.inj e)
          rw [← this]; exact h1
    | 4 => exact lp 5 (sSum tk) (fun k op c => Or.inr (Or.inr (sep_kd.2.2.1 c).1))
    | 5 => exact lp 6 (sPro tk) (fun k op c => Or.inr (Or.inr (sep_kd.2.2.2.1 c).1))
    | 6 =>
      show goodP m s (if isG tk s.1 40 = true then _ else _)
      have up : ∀ j, isW tk s.1 j = true → ∀ i, goodP m s (pG tk w n i (s.1 + 1, s.2)) := fun j c i s' e => by
        have a := ih i (s.1 + 1, s.2) (T.lt h0 (Or.inl (isW_kd c).1)) s' e
        have a1 : s.1 + 1 < s'.1 := a.1
        exact ⟨by omega, a.2.1, a.2.2⟩
      split
      · rename_i c
        refine goodP.bind (fun s1 => s.1 < s1.1 ∧ s1.1 ≤ m ∧ s1.2.1 = s.2.1 + 1) (fun s1 e => op1 s1 e (Or.inr (Or.inr (isG_kd c).1))) (fun s1 h1 => ?_)
        refine goodP.bind (fun s2 => s.1 < s2.1 ∧ s2.1 ≤ m ∧ s2.2.1 = s.2.1 + 1) (fun s2 e => ?_) (fun s2 h2 => ?_)
        · have a := ih 4 s1 h1.2.1 s2 e
          exact ⟨by omega, a.2.1, by rw [a.2.2, h1.2.2]⟩
        · refine goodP.bind (fun s3 => s.1 < s3.1 ∧ s3.1 ≤ m ∧ s3.2.1 = s.2.1 + 1) (fun s3 e => ?_) (fun s3 h3 s' e => ?_)
          · have a := st s2 s3 41 h2.2.1 e
            exact ⟨by omega, a.2.1, by rw [a.2.2, h2.2.2]⟩
          · have := Sum.inl.inj (Option.some.inj e)
            rw [← this]
            exact ⟨h3.1, h3.2.1, by show s3.2.1 - 1 = s.2.1; omega⟩
      · split
        · rename_i c
          exact one (Or.inr (Or.inl c)) _
        · split
          · rename_i c; exact up _ c 7
          · split
            · rename_i c; exact up _ c 8
            · split
              · rename_i c; exact up _ c 9
              · split
                · rename_i c
                  split
                  · exact one (Or.inl c) _
                  · exact goodP.fail m s _
                · exact goodP.fail m s _
    | j + 7 => exact call (j + 7)
