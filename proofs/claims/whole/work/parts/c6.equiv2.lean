/-! ===== L2: parser and machine, reader by reader ===== -/
theorem bP_assoc (r : PRs) (f g : PSt → PRs) : bP (bP r f) g = bP r fun s => bP (f s) g := by rcases r with _ | (s1 | x) <;> rfl
theorem test_to {tk : TkF} {w n : Nat} (hT : EqT tk w n) (s : PSt) (G : FRm) (fr : List FRm) (S : List Int) (hG : G.1 = 5 ∨ G.1 = 6) (h0 : G.2.1 = 0) (hbg : G.2.2.1 = true) (hb : G.2.2.2.2 = S.length) (sg : Int) (hsg : sg = if G.1 = 5 then 93 else 44) (r' : PRs → Prop) (g : PSt → PRs) (hn : r' none) (hx : ∀ x, Gs tk w (s.1, s.2.1, s.2.2, S, G :: fr, false) (.inr (.inr x)) → r' (some (.inr x)))
    (ho : ∀ (s2 : PSt) (ph : Int), isG tk s2.1 sg = true → (∀ r, (∀ ops c o, jn 1 S.length ops c o = (S, s2.2.2, s2.2.1) → mGo tk s2.1 o c ops (mkF0 G ph) fr = r) → Gs tk w (s.1, s.2.1, s.2.2, S, G :: fr, false) r) → nop tk (mkF0 G ph) s2.1 → r' (g (s2.1 + 1, s2.2))) : r' (bP (pG tk w n 0 s) fun s2 => bP (tks tk sg s2) g) := by
  have ht : tst G.1 = true := tst_iff.mpr (by omega)
  have r1 := hT s G fr S ht h0 hbg (by rw [hb]; exact low.base 1 S)
  rcases hr : pG tk w n 0 s with _ | (s2 | x)
  · exact hn
  · rw [hr] at r1
    rw [bP_ok]
    obtain ⟨ph, ⟨⟨q, qa⟩, qo⟩, a⟩ := r1
    have np := QF.nop (F := G) q
    unfold tks
    by_cases c : isG tk s2.1 sg = true
    · rw [if_pos c, bP_ok]
      refine ho s2 ph c (fun r hr' => ?_) np
      refine a.go (by show low 1 G.2.2.2.2 S; rw [hb]; exact low.base 1 S) (fun ops c o e => ?_)
      refine hr' ops c o ?_
      have e' : jn 1 G.2.2.2.2 ops c o = (S, s2.2.2, s2.2.1) := e
      rw [hb] at e'
      exact e'
    · rw [if_neg c, bP_no]
      refine hx _ (a.wrong (fun z o c' ops => mGo_no z np (by show 2 ≤ G.1; omega) (fun _ => ⟨qa, qo⟩) ?_))
      show ¬ isG tk s2.1 (if G.1 = 3 ∨ G.1 = 6 then 44 else if G.1 = 5 then 93 else 41) = true
      rw [hsg] at c
      by_cases z5 : G.1 = 5
      · rw [if_pos z5] at c
        rw [if_neg (by omega), if_pos z5]; exact c
      · rw [if_neg z5] at c
        rw [if_pos (by omega)]; exact c
  · rw [hr] at r1
    rw [bP_no]
    exact hx x r1
theorem args2 {tk : TkF} {w n : Nat} (hS : EqS tk w n) (st : MSt) (s1 : PSt) (bg : Bool) (pr : Int) (F : FRm) (fr : List FRm) (S : List Int) (go : Gs tk w st (.inl (s1.1, s1.2.1, s1.2.2, S, (3, 0, bg, pr, S.length) :: mkF0 F F.2.1 :: fr, false))) : Rt tk w st 7 S (mkF0 F) fr (fun ph _ => ph = F.2.1) (bP (pG tk w n 4 s1) fun s2 => bP (tks tk 44 s2) fun s3 => bP (pG tk w n 4 s3) fun s4 => bP (tks tk 41 s4) fun s5 => some (.inl (adc pr (clo s5)))) := by
  refine sum_to hS s1 (3, 0, bg, pr, S.length) (mkF0 F F.2.1 :: fr) S (Or.inr (Or.inl rfl)) rfl rfl 44 rfl (Rt tk w st 7 S (mkF0 F) fr (fun ph _ => ph = F.2.1)) _ trivial (fun x hx => go.tr hx) (fun s2 c K np => ?_)
  have go2 : Gs tk w st (.inl (s2.1 + 1, s2.2.1, s2.2.2, S, (4, 0, false, pr, S.length) :: mkF0 F F.2.1 :: fr, false)) := by
    refine go.tr (K _ (fun ops c' o e => ?_))
    rw [mGo_cm np (Or.inl rfl) c]
    show Sum.inl (s2.1 + 1, (jn 1 S.length ops c' o).2.2, (jn 1 S.length ops c' o).2.1, (jn 1 S.length ops c' o).1, _ :: _, false) = _
    rw [e]
    rfl
  refine sum_to hS (s2.1 + 1, s2.2) (4, 0, false, pr, S.length) (mkF0 F F.2.1 :: fr) S (Or.inr (Or.inr rfl)) rfl rfl 41 rfl (Rt tk w st 7 S (mkF0 F) fr (fun ph _ => ph = F.2.1)) _ trivial (fun x hx => go2.tr hx) (fun s4 c4 K4 np4 => ?_)
  refine ⟨F.2.1, rfl, Af.done (go2.tr (K4 _ (fun ops c' o e => ?_)))⟩
  rw [mGo_cl np4 (Or.inr rfl) c4]
  show Sum.inl (s4.1 + 1, (jn 1 S.length ops c' o).2.2 - 1, (jn 1 S.length ops c' o).2.1 ++ _, (jn 1 S.length ops c' o).1, mkF0 F F.2.1 :: fr, true) = _
  rw [e]
  rfl
theorem eqA {tk : TkF} {w n : Nat} (hS : ∀ m, m ≤ n → EqS tk w m) (hT : ∀ m, m ≤ n → EqT tk w m) : EqA tk w (n + 1) := by
  intro s F fr S hsp
  have n1 : ¬ ((tst F.1 && F.2.2.1) = true ∧ isW tk s.1 25 = true) := fun z => hsp ⟨z.1, Or.inl z.2⟩
  have n2 : ¬ ((tst F.1 && F.2.2.1) = true ∧ isG tk s.1 91 = true) := fun z => hsp ⟨z.1, Or.inr (Or.inl z.2)⟩
  have n3 : ¬ ((tst F.1 && F.2.2.1) = true ∧ isW tk s.1 26 = true) := fun z => hsp ⟨z.1, Or.inr (Or.inr z.2)⟩
  have fin : ∀ r, mOp tk w s.1 s.2.1 s.2.2 S F fr = r → Gs tk w (s.1, s.2.1, s.2.2, S, F :: fr, false) r := fun r h => Gs.one h
  show Rt tk w _ 7 S (mkF0 F) fr _ (if isG tk s.1 40 = true then bP (opn tk s) fun s1 => bP (pG tk w n 4 s1) fun s2 => bP (tks tk 41 s2) fun s3 => some (.inl (clo s3))
      else if (tk s.1).1 = 2 then some (.inl (s.1 + 1, s.2.1, s.2.2 ++ [(0, (tk s.1).2.1)]))
      else if isW tk s.1 22 = true then pG tk w n 7 (s.1 + 1, s.2)
      else if isW tk s.1 23 = true then pG tk w n 8 (s.1 + 1, s.2)
      else if isW tk s.1 24 = true then pG tk w n 9 (s.1 + 1, s.2)
      else if (tk s.1).1 = 1 then (match fct w (tk s.1).2.1 with | some o => some (.inl (adc o (s.1 + 1, s.2))) | none => some (.inr (wrg tk s.1)))
      else some (.inr (wrg tk s.1)))
  by_cases k4 : (tk s.1).1 = 4
  · obtain ⟨a1, a2⟩ := kd4_not k4
    rw [if_neg (a2 40), if_neg (by omega), if_neg (a1 22), if_neg (a1 23), if_neg (a1 24), if_neg (by omega)]
    refine fin _ ?_
    unfold mOp wrg
    rw [if_pos k4, if_pos k4]
  · have m0 : ∀ r, (if isG tk s.1 40 = true then mpu tk 2 0 s.1 s.2.1 s.2.2 S (mkF0 F F.2.1 :: fr) else
        if isW tk s.1 22 = true ∨ isW tk s.1 23 = true ∨ isW tk s.1 24 = true then (if isG tk (s.1 + 1) 40 = true then mpu tk (if isW tk s.1 24 = true then 6 else 3) (if isW tk s.1 22 = true then 36 else if isW tk s.1 23 = true then 37 else 44) (s.1 + 1) s.2.1 s.2.2 S (mkF0 F F.2.1 :: fr) else .inr (.inr (wrg tk (s.1 + 1)))) else
        if (tk s.1).1 = 2 then .inl (s.1 + 1, s.2.1, s.2.2 ++ [(0, (tk s.1).2.1)], S, mkF0 F F.2.1 :: fr, true) else
        if (tk s.1).1 = 1 then (match fct w (tk s.1).2.1 with | some o => .inl (s.1 + 1, s.2.1, s.2.2 ++ [(o, 0)], S, mkF0 F F.2.1 :: fr, true) | none => .inr (.inr (1, (tk s.1).2.2)))
        else .inr (.inr (1, (tk s.1).2.2))) = r → Gs tk w (s.1, s.2.1, s.2.2, S, F :: fr, false) r := fun r h => fin r (by
      unfold mOp
      rw [if_neg k4, if_neg n1, if_neg n2, if_neg n3]
      exact h)
    have call : ∀ (j : Nat) (v pr : Int), isW tk s.1 v = true → (v = 22 ∧ j = 7 ∧ pr = 36 ∨ v = 23 ∧ j = 8 ∧ pr = 37 ∨ v = 24 ∧ j = 9 ∧ pr = 44) → Rt tk w (s.1, s.2.1, s.2.2, S, F :: fr, false) 7 S (mkF0 F) fr (fun ph _ => ph = F.2.1) (pG tk w n j (s.1 + 1, s.2)) := fun j v pr cv hj => by
      obtain ⟨kv1, kv2⟩ := isW_kd cv
      have hor : isW tk s.1 22 = true ∨ isW tk s.1 23 = true ∨ isW tk s.1 24 = true := by
        rcases hj with z | z | z
        · left; rw [← z.1]; exact cv
        · right; left; rw [← z.1]; exact cv
        · right; right; rw [← z.1]; exact cv
      have ng : ¬ isG tk s.1 40 = true := fun z => G_W z cv
      have isv : ∀ x, isW tk s.1 x = true ↔ x = v := fun x => ⟨fun z => (isW_kd z).2.symm.trans kv2, fun z => by rw [z]; exact cv⟩
      have epr : (if isW tk s.1 22 = true then (36 : Int) else if isW tk s.1 23 = true then 37 else 44) = pr := by
        simp only [isv]
        rcases hj with ⟨z1, z2, z3⟩ | ⟨z1, z2, z3⟩ | ⟨z1, z2, z3⟩ <;> rw [z1, z3] <;> rfl
      have ekd : (if isW tk s.1 24 = true then (6 : Int) else 3) = if j = 9 then 6 else 3 := by
        simp only [isv]
        rcases hj with ⟨z1, z2, z3⟩ | ⟨z1, z2, z3⟩ | ⟨z1, z2, z3⟩ <;> rw [z1, z2] <;> rfl
      have m1 : ∀ r, (if isG tk (s.1 + 1) 40 = true then mpu tk (if j = 9 then 6 else 3) pr (s.1 + 1) s.2.1 s.2.2 S (mkF0 F F.2.1 :: fr) else .inr (.inr (wrg tk (s.1 + 1)))) = r → Gs tk w (s.1, s.2.1, s.2.2, S, F :: fr, false) r := fun r h => m0 r (by
        rw [if_neg ng, if_pos hor, epr, ekd]; exact h)
      cases n with
      | zero => unfold pG; trivial
      | succ n' =>
        have hS' := hS n' (by omega)
        have hT' := hT n' (by omega)
        have eP : pG tk w (n' + 1) j (s.1 + 1, s.2) = if isG tk (s.1 + 1) 40 = true then bP (opn tk (s.1 + 1, s.2)) fun s0 => bP (if j = 9 then bP (pG tk w n' 0 s0) (tks tk 44) else some (.inl s0)) fun s1 => bP (pG tk w n' 4 s1) fun s2 => bP (tks tk 44 s2) fun s3 => bP (pG tk w n' 4 s3) fun s4 => bP (tks tk 41 s4) fun s5 => some (.inl (adc (if j = 7 then 36 else if j = 8 then 37 else 44) (clo s5))) else some (.inr (wrg tk (s.1 + 1))) := by
          rcases hj with ⟨z1, z2, z3⟩ | ⟨z1, z2, z3⟩ | ⟨z1, z2, z3⟩ <;> subst z2 <;> rfl
        have ej : (if j = 7 then (36 : Int) else if j = 8 then 37 else 44) = pr := by
          rcases hj with ⟨z1, z2, z3⟩ | ⟨z1, z2, z3⟩ | ⟨z1, z2, z3⟩ <;> rw [z2, z3] <;> rfl
        rw [eP, ej]
        by_cases cg : isG tk (s.1 + 1) 40 = true
        · rw [if_pos cg]
          unfold opn
          by_cases o7 : s.2.1 = 7
          · rw [if_pos o7]
            refine m1 _ ?_
            rw [if_pos cg]
            unfold mpu
            rw [if_pos o7]
          · rw [if_neg o7, bP_ok]
            have go := m1 _ (if_pos cg)
            unfold mpu at go
            rw [if_neg o7] at go
            by_cases j9 : j = 9
            · rw [if_pos j9, bP_assoc]
              rw [if_pos j9] at go
              refine test_to hT' (s.1 + 1 + 1, s.2.1 + 1, s.2.2) (6, 0, true, pr, S.length) (mkF0 F F.2.1 :: fr) S (Or.inr rfl) rfl rfl rfl 44 rfl (Rt tk w _ 7 S (mkF0 F) fr (fun ph _ => ph = F.2.1)) _ trivial (fun x hx => go.tr hx) (fun s2 ph c K np => ?_)
              refine args2 hS' _ (s2.1 + 1, s2.2) false pr F fr S (go.tr (K _ (fun ops c' o e => ?_)))
              rw [mGo_cm np (Or.inr rfl) c]
              show Sum.inl (s2.1 + 1, (jn 1 S.length ops c' o).2.2, (jn 1 S.length ops c' o).2.1, (jn 1 S.length ops c' o).1, _ :: _, false) = _
              rw [e]
              rfl
            · rw [if_neg j9, bP_ok]
              rw [if_neg j9] at go
              exact args2 hS' _ (s.1 + 1 + 1, s.2.1 + 1, s.2.2) true pr F fr S go
        · rw [if_neg cg]
          refine m1 _ ?_
          rw [if_neg cg]
    by_cases c40 : isG tk s.1 40 = true
    · rw [if_pos c40]
      unfold opn
      by_cases o7 : s.2.1 = 7
      · rw [if_pos o7]
        refine m0 _ ?_
        rw [if_pos c40]
        unfold mpu
        rw [if_pos o7]
      · rw [if_neg o7, bP_ok]
        have go := m0 _ (if_pos c40)
        unfold mpu at go
        rw [if_neg o7] at go
        refine sum_to (hS n (Nat.le_refl _)) (s.1 + 1, s.2.1 + 1, s.2.2) (2, 0, true, 0, S.length) (mkF0 F F.2.1 :: fr) S (Or.inl rfl) rfl rfl 41 rfl (Rt tk w _ 7 S (mkF0 F) fr (fun ph _ => ph = F.2.1)) _ trivial (fun x hx => go.tr hx) (fun s2 c K np => ?_)
        refine ⟨F.2.1, rfl, Af.done (go.tr (K _ (fun ops c' o e => ?_)))⟩
        rw [mGo_cl np (Or.inl rfl) c]
        show Sum.inl (s2.1 + 1, (jn 1 S.length ops c' o).2.2 - 1, (jn 1 S.length ops c' o).2.1 ++ [], (jn 1 S.length ops c' o).1, mkF0 F F.2.1 :: fr, true) = _
        rw [e, List.append_nil]
        rfl
    · rw [if_neg c40]
      by_cases k2 : (tk s.1).1 = 2
      · rw [if_pos k2]
        have nw : ∀ x, ¬ isW tk s.1 x = true := fun x z => by have := (isW_kd z).1; omega
        refine ⟨F.2.1, rfl, Af.done (m0 _ ?_)⟩
        rw [if_neg c40, if_neg (by rintro (z | z | z) <;> exact nw _ z), if_pos k2]
      · rw [if_neg k2]
        by_cases w22 : isW tk s.1 22 = true
        · rw [if_pos w22]; exact call 7 22 36 w22 (Or.inl ⟨rfl, rfl, rfl⟩)
        · rw [if_neg w22]
          by_cases w23 : isW tk s.1 23 = true
          · rw [if_pos w23]; exact call 8 23 37 w23 (Or.inr (Or.inl ⟨rfl, rfl, rfl⟩))
          · rw [if_neg w23]
            by_cases w24 : isW tk s.1 24 = true
            · rw [if_pos w24]; exact call 9 24 44 w24 (Or.inr (Or.inr ⟨rfl, rfl, rfl⟩))
            · rw [if_neg w24]
              have now : ¬ (isW tk s.1 22 = true ∨ isW tk s.1 23 = true ∨ isW tk s.1 24 = true) := by rintro (z | z | z) <;> contradiction
              have ewr : wrg tk s.1 = (1, (tk s.1).2.2) := by unfold wrg; rw [if_neg k4]
              by_cases k1 : (tk s.1).1 = 1
              · rw [if_pos k1]
                rcases hfc : fct w (tk s.1).2.1 with _ | o
                · refine m0 _ ?_
                  rw [if_neg c40, if_neg now, if_neg k2, if_pos k1, hfc, ewr]
                · refine ⟨F.2.1, rfl, Af.done (m0 _ ?_)⟩
                  rw [if_neg c40, if_neg now, if_neg k2, if_pos k1, hfc]
                  rfl
              · rw [if_neg k1]
                refine m0 _ ?_
                rw [if_neg c40, if_neg now, if_neg k2, if_neg k1, ewr]
