/-! ===== L2: the machine behind a complete test or sum, by the frame's kind ===== -/
theorem tst_iff {k : Int} : tst k = true ↔ k = 1 ∨ k = 5 ∨ k = 6 := by unfold tst; simp
theorem G_W {tk : TkF} {k : Nat} {x y : Int} (h : isG tk k x = true) : ¬ isW tk k y = true := fun z => by have := (isG_kd h).1; have := (isW_kd z).1; omega
theorem mGo_cl {tk : TkF} {k o : Nat} {c : List (Int × Int)} {ops : List Int} {F G : FRm} {fr : List FRm} (h2 : nop tk F k) (hk : F.1 = 2 ∨ F.1 = 4) (hg : isG tk k 41 = true) : mGo tk k o c ops F (G :: fr) = .inl (k + 1, (jn 1 F.2.2.2.2 ops c o).2.2 - 1, (jn 1 F.2.2.2.2 ops c o).2.1 ++ (if F.1 = 4 then [(F.2.2.2.1, 0)] else []), (jn 1 F.2.2.2.2 ops c o).1, G :: fr, true) := by
  have h1 := (isG_kd hg).1
  have ht : ¬ tst F.1 = true := fun z => by have := tst_iff.mp z; omega
  rw [mGo_rest (by omega) h2, if_neg (fun z => ht z.1), if_neg (fun z => ht z.1), if_neg (by omega), if_neg (by omega), if_neg (show ¬ F.1 = 5 by omega), if_pos hg]
  dsimp only
  rw [if_neg (show ¬ F.1 = 5 by omega)]
theorem mGo_cb {tk : TkF} {k o : Nat} {c : List (Int × Int)} {ops : List Int} {F G : FRm} {fr : List FRm} (h2 : nop tk F k) (hk : F.1 = 5) (hg : isG tk k 93 = true) : mGo tk k o c ops F (G :: fr) = .inl (k + 1, (jn 1 F.2.2.2.2 ops c o).2.2 - 1, (jn 1 F.2.2.2.2 ops c o).2.1, (jn 1 F.2.2.2.2 ops c o).1, (G.1, 2, G.2.2) :: fr, true) := by
  have h1 := (isG_kd hg).1
  rw [mGo_rest (by omega) h2, if_neg (fun z => G_W hg z.2), if_neg (fun z => G_W hg z.2), if_neg (by omega), if_neg (by omega), if_pos hk, if_pos hg]
  dsimp only
  rw [if_pos hk, if_neg (show ¬ F.1 = 4 by omega), List.append_nil]
theorem mGo_cm {tk : TkF} {k o : Nat} {c : List (Int × Int)} {ops : List Int} {F : FRm} {fr : List FRm} (h2 : nop tk F k) (hk : F.1 = 3 ∨ F.1 = 6) (hg : isG tk k 44 = true) : mGo tk k o c ops F fr = .inl (k + 1, (jn 1 F.2.2.2.2 ops c o).2.2, (jn 1 F.2.2.2.2 ops c o).2.1, (jn 1 F.2.2.2.2 ops c o).1, ((if F.1 = 3 then 4 else 3), 0, F.2.2) :: fr, false) := by
  have h1 := (isG_kd hg).1
  rw [mGo_rest (by omega) h2, if_neg (fun z => G_W hg z.2), if_neg (fun z => G_W hg z.2), if_neg (by omega), if_pos hk, if_pos hg]
theorem mGo_no {tk : TkF} {k o : Nat} {c : List (Int × Int)} {ops : List Int} {F : FRm} {fr : List FRm} (h1 : (tk k).1 ≠ 4) (h2 : nop tk F k) (hk : 2 ≤ F.1) (ha : tst F.1 = true → sAnd tk k = none ∧ sOr tk k = none) (hg : ¬ isG tk k (if F.1 = 3 ∨ F.1 = 6 then 44 else if F.1 = 5 then 93 else 41) = true) : mGo tk k o c ops F fr = .inr (.inr (1, (tk k).2.2)) := by
  have a1 : ¬ (tst F.1 = true ∧ isW tk k 27 = true) := fun z => by
    have := (ha z.1).1
    unfold sAnd at this
    rw [if_pos z.2] at this
    cases this
  have a2 : ¬ (tst F.1 = true ∧ isW tk k 28 = true) := fun z => by
    have := (ha z.1).2
    unfold sOr at this
    rw [if_pos z.2] at this
    cases this
  rw [mGo_rest h1 h2, if_neg a1, if_neg a2, if_neg (by omega)]
  by_cases c1 : F.1 = 3 ∨ F.1 = 6
  · rw [if_pos c1] at hg ⊢
    rw [if_neg hg]
  · rw [if_neg c1] at hg ⊢
    rw [if_neg hg]
theorem mGo_dn {tk : TkF} {k o : Nat} {c : List (Int × Int)} {ops : List Int} {F : FRm} {fr : List FRm} (h1 : (tk k).1 ≠ 4) (h2 : nop tk F k) (hk : F.1 < 2) (ha : sAnd tk k = none ∧ sOr tk k = none) : mGo tk k o c ops F fr = .inr (.inl (k, (jn 1 F.2.2.2.2 ops c o).2.1)) := by
  have a1 : ¬ (tst F.1 = true ∧ isW tk k 27 = true) := fun z => by
    have := ha.1
    unfold sAnd at this
    rw [if_pos z.2] at this
    cases this
  have a2 : ¬ (tst F.1 = true ∧ isW tk k 28 = true) := fun z => by
    have := ha.2
    unfold sOr at this
    rw [if_pos z.2] at this
    cases this
  rw [mGo_rest h1 h2, if_neg a1, if_neg a2, if_pos hk]
theorem QS.nop {tk : TkF} {F : FRm} {ph : Int} {k : Nat} (q : QS tk F ph k) (ht : ¬ tst F.1 = true) : nop tk (mkF0 F ph) k := ⟨fun _ => ⟨q.2, q.1.2⟩, fun z => absurd z ht⟩
theorem QF.nop {tk : TkF} {F : FRm} {ph : Int} {k : Nat} (q : QF tk ph k) : nop tk (mkF0 F ph) k := by
  rcases q with ⟨q1, q2, q3⟩ | q1
  · exact ⟨fun _ => ⟨q2, q3⟩, fun _ => by show ph ≠ 0; omega⟩
  · exact ⟨fun z => by have z' : ph < 2 := z; omega, fun _ => by show ph ≠ 0; omega⟩
/-- a closed part: nothing is held back -/
theorem Af.done {tk : TkF} {w : Nat} {st : MSt} {l : Nat} {S : List Int} {F : FRm} {fr : List FRm} {s' : PSt} (a : Gs tk w st (.inl (s'.1, s'.2.1, s'.2.2, S, F :: fr, true))) : Af tk w st l S F fr s' := ⟨[], s'.2.2, a, List.append_nil _, fun x hx => absurd hx (by simp)⟩
theorem kd4_not {tk : TkF} {k : Nat} (h : (tk k).1 = 4) : (∀ x, ¬ isW tk k x = true) ∧ ∀ x, ¬ isG tk k x = true := ⟨fun x z => by have := (isW_kd z).1; omega, fun x z => by have := (isG_kd z).1; omega⟩
/-- a sum in brackets or behind a comma, up to its sign -/
theorem sum_to {tk : TkF} {w n : Nat} (hS : EqS tk w n) (s : PSt) (G : FRm) (fr : List FRm) (S : List Int) (hG : G.1 = 2 ∨ G.1 = 3 ∨ G.1 = 4) (h0 : G.2.1 = 0) (hb : G.2.2.2.2 = S.length) (sg : Int) (hsg : sg = if G.1 = 3 then 44 else 41) (r' : PRs → Prop) (g : PSt → PRs) (hn : r' none) (hx : ∀ x, Gs tk w (s.1, s.2.1, s.2.2, S, G :: fr, false) (.inr (.inr x)) → r' (some (.inr x)))
    (ho : ∀ s2 : PSt, isG tk s2.1 sg = true → (∀ r, (∀ ops c o, jn 1 S.length ops c o = (S, s2.2.2, s2.2.1) → mGo tk s2.1 o c ops (mkF0 G 0) fr = r) → Gs tk w (s.1, s.2.1, s.2.2, S, G :: fr, false) r) → nop tk (mkF0 G 0) s2.1 → r' (g (s2.1 + 1, s2.2))) : r' (bP (pG tk w n 4 s) fun s2 => bP (tks tk sg s2) g) := by
  have ht : ¬ tst G.1 = true := fun z => by have := tst_iff.mp z; omega
  have r1 := hS s G fr S (fun z => ht (by have := z.1; rw [Bool.and_eq_true] at this; exact this.1)) (by omega) (by rw [hb]; exact low.base 5 S)
  rcases hr : pG tk w n 4 s with _ | (s2 | x)
  · exact hn
  · rw [hr] at r1
    rw [bP_ok]
    obtain ⟨ph, q, a⟩ := r1
    have eph : ph = 0 := q.1.1.trans h0
    have np := QS.nop q ht
    rw [eph] at np a
    unfold tks
    by_cases c : isG tk s2.1 sg = true
    · rw [if_pos c, bP_ok]
      refine ho s2 c (fun r hr' => ?_) np
      have a1 := a.weak (l := 1) (by omega)
      refine a1.go (by show low 1 G.2.2.2.2 S; rw [hb]; exact low.base 1 S) (fun ops c o e => ?_)
      refine hr' ops c o ?_
      have e' : jn 1 G.2.2.2.2 ops c o = (S, s2.2.2, s2.2.1) := e
      rw [hb] at e'
      exact e'
    · rw [if_neg c, bP_no]
      refine hx _ (a.wrong (fun z o c' ops => mGo_no z np (by show 2 ≤ G.1; omega) (fun y => absurd y ht) ?_))
      show ¬ isG tk s2.1 (if G.1 = 3 ∨ G.1 = 6 then 44 else if G.1 = 5 then 93 else 41) = true
      rw [hsg] at c
      by_cases z3 : G.1 = 3
      · rw [if_pos z3] at c
        rw [if_pos (Or.inl z3)]; exact c
      · rw [if_neg z3] at c
        rw [if_neg (by omega), if_neg (by omega)]; exact c
  · rw [hr] at r1
    rw [bP_no]
    exact hx x r1
