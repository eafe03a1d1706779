/-! ===== L2: the parser always ends ===== -/
def dpj (j : Nat) : Nat := if j = 0 then 7 else if j = 1 then 6 else if j = 2 then 5 else if j = 3 then 4 else if j = 4 then 3 else if j = 5 then 2 else if j = 6 then 1 else 0
theorem plp_some {tk : TkF} {m o : Nat} (f : PSt → PRs) (sep : Nat → Option Int) (hs : ∀ k op, sep k = some op → k ≤ m → k < m) (hf : ∀ s, s.1 ≤ m → goodP m s (f s)) (hn : ∀ s : PSt, s.1 ≤ m → s.2.1 = o → f s ≠ none) : ∀ (j : Nat) (s : PSt), s.1 ≤ m → s.2.1 = o → m ≤ s.1 + j → plp f sep j s ≠ none
  | 0, s, h0, h1, h2 => by
    unfold plp
    split
    · exact fun z => by cases z
    · rename_i op c
      have := hs _ _ c h0
      omega
  | j + 1, s, h0, h1, h2 => by
    unfold plp
    split
    · exact fun z => by cases z
    · rename_i op c
      have hlt := hs _ _ c h0
      have g := hf (s.1 + 1, s.2) hlt
      have n1 := hn (s.1 + 1, s.2) hlt h1
      rcases hr : f (s.1 + 1, s.2) with _ | (s1 | x)
      · exact absurd hr n1
      · rw [bP_ok]
        obtain ⟨g1, g2, g3⟩ := g s1 hr
        have g1' : s.1 + 1 < s1.1 := g1
        exact plp_some (tk := tk) f sep hs hf hn j (adc op s1) g2 (g3.trans h1) (by show m ≤ s1.1 + j; omega)
      · rw [bP_no]; exact fun z => by cases z
theorem bP_some {r : PRs} {g : PSt → PRs} (h1 : r ≠ none) (h2 : ∀ s1, r = some (.inl s1) → g s1 ≠ none) : bP r g ≠ none := by
  rcases r with _ | (s1 | x)
  · exact absurd rfl h1
  · exact h2 s1 rfl
  · exact fun z => by cases z
theorem opn_some (tk : TkF) (s : PSt) : opn tk s ≠ none := by unfold opn; split <;> exact fun z => by cases z
theorem tks_some (tk : TkF) (sg : Int) (s : PSt) : tks tk sg s ≠ none := by unfold tks; split <;> exact fun z => by cases z
theorem pG_some {tk : TkF} {m : Nat} (T : TkL tk m) (hm : m ≤ 1600) (w : Nat) : ∀ (n j : Nat) (s : PSt), s.1 ≤ m → s.2.1 ≤ 7 → 8 * (7 - s.2.1) + 1 + dpj j ≤ n → pG tk w n j s ≠ none
  | 0, j, s, _, _, h => by omega
  | n + 1, j, s, h0, h7, hn => by
    have ih := pG_some T hm w n
    have gd := pG_good T w n
    have lp : ∀ (i : Nat) (sep : Nat → Option Int), (∀ k op, sep k = some op → (tk k).1 = 1 ∨ (tk k).1 = 2 ∨ (tk k).1 = 3) → 8 * (7 - s.2.1) + 1 + dpj i ≤ n → bP (pG tk w n i s) (plp (pG tk w n i) sep 1600) ≠ none := fun i sep hs hi =>
      bP_some (ih i s h0 h7 hi) (fun s1 e => by
        obtain ⟨a1, a2, a3⟩ := gd i s h0 s1 e
        exact plp_some (tk := tk) (o := s.2.1) (pG tk w n i) sep (fun k op c hk => T.lt hk (hs k op c)) (fun s2 h2 => gd i s2 h2) (fun s2 h2 h3 => ih i s2 h2 (by omega) (by rw [h3]; exact hi)) 1600 s1 a2 a3 (by omega))
    have st : ∀ (s1 s2 : PSt) (sg : Int), s1.1 ≤ m → tks tk sg s1 = some (.inl s2) → s2.1 ≤ m ∧ s2.2.1 = s1.2.1 := fun s1 s2 sg h1 e => by
      obtain ⟨c, rfl⟩ := tks_ok e
      exact ⟨T.lt h1 (Or.inr (Or.inr (isG_kd c).1)), rfl⟩
    have op1 : ∀ s1, opn tk s = some (.inl s1) → ((tk s.1).1 = 1 ∨ (tk s.1).1 = 2 ∨ (tk s.1).1 = 3) → s1.1 ≤ m ∧ s1.2.1 = s.2.1 + 1 ∧ s.2.1 + 1 ≤ 7 := fun s1 e hk => by
      obtain ⟨a, rfl⟩ := opn_ok e
      have := T.lt h0 hk
      exact ⟨this, rfl, by omega⟩
    have ok1 : ∀ s1 : PSt, (some (.inl s1) : PRs) ≠ none := fun s1 z => by cases z
    have no1 : ∀ x : Int × Int, (some (.inr x) : PRs) ≠ none := fun s1 z => by cases z
    have call : ∀ j, (if isG tk s.1 40 = true then bP (opn tk s) fun s0 => bP (if j = 9 then bP (pG tk w n 0 s0) (tks tk 44) else some (.inl s0)) fun s1 => bP (pG tk w n 4 s1) fun s2 => bP (tks tk 44 s2) fun s3 => bP (pG tk w n 4 s3) fun s4 => bP (tks tk 41 s4) fun s5 => some (.inl (adc (if j = 7 then 36 else if j = 8 then 37 else 44) (clo s5))) else some (.inr (wrg tk s.1))) ≠ none := fun j => by
      split
      · rename_i c
        refine bP_some (opn_some tk s) (fun s0 e0 => ?_)
        obtain ⟨a1, a2, a3⟩ := op1 s0 e0 (Or.inr (Or.inr (isG_kd c).1))
        have hd0 : dpj 0 = 7 := rfl
        have hd4 : dpj 4 = 3 := rfl
        refine bP_some ?_ (fun s1 e1 => ?_)
        · split
          · exact bP_some (ih 0 s0 a1 (by omega) (by omega)) (fun sa _ => tks_some tk 44 sa)
          · exact ok1 s0
        · have b : s1.1 ≤ m ∧ s1.2.1 = s0.2.1 := by
            split at e1
            · rcases hr : pG tk w n 0 s0 with _ | (sa | x)
              · rw [hr] at e1; cases e1
              · rw [hr] at e1
                have a := gd 0 s0 a1 sa hr
                have b := st sa s1 44 a.2.1 e1
                exact ⟨b.1, by rw [b.2, a.2.2]⟩
              · rw [hr] at e1; cases e1
            · have := Sum.inl.inj (Option.some.inj e1)
              rw [← this]; exact ⟨a1, rfl⟩
          refine bP_some (ih 4 s1 b.1 (by omega) (by omega)) (fun s2 e2 => ?_)
          have b2 := gd 4 s1 b.1 s2 e2
          refine bP_some (tks_some tk 44 s2) (fun s3 e3 => ?_)
          have b3 := st s2 s3 44 b2.2.1 e3
          refine bP_some (ih 4 s3 b3.1 (by omega) (by omega)) (fun s4 e4 => ?_)
          exact bP_some (tks_some tk 41 s4) (fun s5 _ => ok1 _)
      · exact no1 _
    match j with
    | 0 => exact lp 1 (sOr tk) (fun k op c => Or.inl (sep_kd.1 c).1) (by have : dpj 0 = 7 := rfl; have : dpj 1 = 6 := rfl; omega)
    | 1 => exact lp 2 (sAnd tk) (fun k op c => Or.inl (sep_kd.2.1 c).1) (by have : dpj 1 = 6 := rfl; have : dpj 2 = 5 := rfl; omega)
    | 2 =>
      show (if isW tk s.1 25 = true then _ else _) ≠ none
      have hd0 : dpj 0 = 7 := rfl
      have hd2 : dpj 2 = 5 := rfl
      have hd3 : dpj 3 = 4 := rfl
      have hd4 : dpj 4 = 3 := rfl
      split
      · rename_i c
        refine bP_some (opn_some tk s) (fun s0 e0 => ?_)
        obtain ⟨a1, a2, a3⟩ := op1 s0 e0 (Or.inl (isW_kd c).1)
        exact bP_some (ih 2 s0 a1 (by omega) (by omega)) (fun s2 _ => ok1 _)
      · split
        · rename_i c
          refine bP_some (opn_some tk s) (fun s0 e0 => ?_)
          obtain ⟨a1, a2, a3⟩ := op1 s0 e0 (Or.inr (Or.inr (isG_kd c).1))
          exact bP_some (ih 0 s0 a1 (by omega) (by omega)) (fun s2 _ => bP_some (tks_some tk 93 s2) (fun s3 _ => ok1 _))
        · split
          · exact ok1 _
          · refine bP_some (ih 4 s h0 h7 (by omega)) (fun s1 e1 => ?_)
            obtain ⟨b1, b2, b3⟩ := gd 4 s h0 s1 e1
            exact ih 3 s1 b2 (by omega) (by omega)
    | 3 =>
      show (match sCmp tk s.1 with | none => some (.inr (wrg tk s.1)) | some op => bP (pG tk w n 4 (s.1 + 1, s.2)) fun s1 => some (.inl (adc op s1))) ≠ none
      split
      · exact no1 _
      · rename_i op c
        have hd3 : dpj 3 = 4 := rfl
        have hd4 : dpj 4 = 3 := rfl
        exact bP_some (ih 4 (s.1 + 1, s.2) (T.lt h0 (Or.inr (Or.inr (sep_kd.2.2.2.2 c).1))) h7 (by show 8 * (7 - s.2.1) + 1 + dpj 4 ≤ n; omega)) (fun s1 _ => ok1 _)
    | 4 => exact lp 5 (sSum tk) (fun k op c => Or.inr (Or.inr (sep_kd.2.2.1 c).1)) (by have : dpj 4 = 3 := rfl; have : dpj 5 = 2 := rfl; omega)
    | 5 => exact lp 6 (sPro tk) (fun k op c => Or.inr (Or.inr (sep_kd.2.2.2.1 c).1)) (by have : dpj 5 = 2 := rfl; have : dpj 6 = 1 := rfl; omega)
    | 6 =>
      show (if isG tk s.1 40 = true then _ else _) ≠ none
      have hd4 : dpj 4 = 3 := rfl
      have hd6 : dpj 6 = 1 := rfl
      have up : ∀ v, isW tk s.1 v = true → ∀ i, dpj i = 0 → pG tk w n i (s.1 + 1, s.2) ≠ none := fun v c i hi => ih i (s.1 + 1, s.2) (T.lt h0 (Or.inl (isW_kd c).1)) h7 (by show 8 * (7 - s.2.1) + 1 + dpj i ≤ n; omega)
      split
      · rename_i c
        refine bP_some (opn_some tk s) (fun s0 e0 => ?_)
        obtain ⟨a1, a2, a3⟩ := op1 s0 e0 (Or.inr (Or.inr (isG_kd c).1))
        exact bP_some (ih 4 s0 a1 (by omega) (by omega)) (fun s2 _ => bP_some (tks_some tk 41 s2) (fun s3 _ => ok1 _))
      · split
        · exact ok1 _
        · split
          · rename_i c; exact up _ c 7 rfl
          · split
            · rename_i c; exact up _ c 8 rfl
            · split
              · rename_i c; exact up _ c 9 rfl
              · split
                · split
                  · exact ok1 _
                  · exact no1 _
                · exact no1 _
    | j + 7 => exact call (j + 7)
