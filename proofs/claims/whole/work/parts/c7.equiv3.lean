/-! ===== L2: parser and machine: chains, comparisons, facts, tests ===== -/
theorem rnk_vals : rnk 31 = 5 ∧ rnk 32 = 5 ∧ rnk 33 = 6 ∧ rnk 34 = 6 ∧ rnk 35 = 6 ∧ rnk 38 = 4 ∧ rnk 39 = 4 ∧ rnk 40 = 4 ∧ rnk 41 = 2 ∧ rnk 42 = 1 ∧ rnk 43 = 3 := by decide
theorem eqP {tk : TkF} {w n : Nat} (hA : EqA tk w n) : EqP tk w (n + 1) := by
  intro s F fr S hsp hph hS
  show Rt tk w _ 6 S (mkF0 F) fr _ (bP (pG tk w n 6 s) (plp (pG tk w n 6) (sPro tk) 1600))
  have r1 := hA s F fr S hsp
  rcases hr : pG tk w n 6 s with _ | (s1 | x)
  · trivial
  · rw [hr] at r1
    obtain ⟨ph, q, a⟩ := r1
    rw [bP_ok]
    refine Rt.loop (l := 6) (l' := 7) (Q' := fun ph _ => ph = F.2.1) (F2 := mkF0 F F.2.1) (pG tk w n 6) (sPro tk) (by omega) (fun k op c => ?_) (fun s ph H cm op q hH hc c => ?_) (fun s op c => ?_) 1600 s1 ⟨ph, q, a.weak (by omega)⟩
    · rcases (sep_kd.2.2.2.1 c).2 with z | z | z <;> rw [z] <;> decide
    · show mGo tk s.1 (s.2.1 + H.count 43) cm (H ++ S) (mkF0 F ph) fr = _
      rw [mGo_pro (by show ph < 2; omega) c]
      have e := jn_spec (l := 6) hS H cm s.2.1 hH
      show Sum.inl (s.1 + 1, (jn 6 F.2.2.2.2 (H ++ S) cm (s.2.1 + H.count 43)).2.2, (jn 6 F.2.2.2.2 (H ++ S) cm (s.2.1 + H.count 43)).2.1, op :: (jn 6 F.2.2.2.2 (H ++ S) cm (s.2.1 + H.count 43)).1, _, false) = _
      rw [e, hc, q]
    · have r2 := hA (s.1 + 1, s.2) (mkF0 F F.2.1) fr (op :: S) (fun z => by have := z.1; simp [mkF0] at this)
      exact r2
  · rw [hr] at r1
    exact r1
theorem eqS {tk : TkF} {w n : Nat} (hP : EqP tk w n) : EqS tk w (n + 1) := by
  intro s F fr S hsp hph hS
  show Rt tk w _ 5 S (mkF0 F) fr _ (bP (pG tk w n 5 s) (plp (pG tk w n 5) (sSum tk) 1600))
  have r1 := hP s F fr S hsp hph (hS.up (by omega))
  rcases hr : pG tk w n 5 s with _ | (s1 | x)
  · trivial
  · rw [hr] at r1
    obtain ⟨ph, q, a⟩ := r1
    rw [bP_ok]
    refine Rt.loop (l := 5) (l' := 6) (Q' := fun ph k => ph = F.2.1 ∧ sPro tk k = none) (F2 := mkF0 F F.2.1) (pG tk w n 5) (sSum tk) (by omega) (fun k op c => ?_) (fun s ph H cm op q hH hc c => ?_) (fun s op c => ?_) 1600 s1 ⟨ph, q, a.weak (by omega)⟩
    · rcases (sep_kd.2.2.1 c).2 with z | z <;> rw [z] <;> decide
    · show mGo tk s.1 (s.2.1 + H.count 43) cm (H ++ S) (mkF0 F ph) fr = _
      rw [mGo_sum (by show ph < 2; omega) c]
      have e := jn_spec (l := 5) hS H cm s.2.1 hH
      show Sum.inl (s.1 + 1, (jn 5 F.2.2.2.2 (H ++ S) cm (s.2.1 + H.count 43)).2.2, (jn 5 F.2.2.2.2 (H ++ S) cm (s.2.1 + H.count 43)).2.1, op :: (jn 5 F.2.2.2.2 (H ++ S) cm (s.2.1 + H.count 43)).1, _, false) = _
      rw [e, hc, q.1]
    · have hop : rnk op < 6 := by rcases (sep_kd.2.2.1 c).2 with z | z <;> rw [z] <;> decide
      exact hP (s.1 + 1, s.2) (mkF0 F F.2.1) fr (op :: S) (fun z => by have := z.1; simp [mkF0] at this) hph (low.cons hS.1 hop)
  · rw [hr] at r1
    exact r1
theorem eqK {tk : TkF} {w n : Nat} (hS : EqS tk w n) : EqK tk w (n + 1) := by
  intro st s F fr S ht n1 n2 hl a
  show Rt tk w st 3 S (mkF0 F) fr _ (match sCmp tk s.1 with | none => some (.inr (wrg tk s.1)) | some op => bP (pG tk w n 4 (s.1 + 1, s.2)) fun s1 => some (.inl (adc op s1)))
  rcases hc : sCmp tk s.1 with _ | op
  · refine a.wrong (fun z o c ops => ?_)
    unfold mGo
    rw [if_neg z]
    have e0 : (mkF0 F 0).2.1 = 0 := rfl
    have e1 : tst (mkF0 F 0).1 = true := ht
    simp only [e0, e1, n1, n2, hc, ite_self, and_self, if_true]
  · have go : Gs tk w st (.inl (s.1 + 1, s.2.1, s.2.2, op :: S, mkF0 F 1 :: fr, false)) := by
      refine a.go hl (fun ops c o e => ?_)
      rw [mGo_cmp (F := mkF0 F 0) ht rfl hc n1 n2]
      show Sum.inl (s.1 + 1, (jn 5 F.2.2.2.2 ops c o).2.2, (jn 5 F.2.2.2.2 ops c o).2.1, op :: (jn 5 F.2.2.2.2 ops c o).1, _, false) = _
      have e' : jn 5 F.2.2.2.2 ops c o = (S, s.2.2, s.2.1) := e
      rw [e']
      rfl
    have hop : rnk op = 4 ∧ op ≠ 43 := by rcases (sep_kd.2.2.2.2 hc).2 with z | z | z <;> rw [z] <;> decide
    have r1 := Rt.tr go (hS (s.1 + 1, s.2) (mkF0 F 1) fr (op :: S) (fun z => by have := z.1; simp [mkF0] at this) (by show (1 : Int) < 2; decide) (low.cons hl.1 (by omega)))
    dsimp only
    rcases hr : pG tk w n 4 (s.1 + 1, s.2) with _ | (s1 | x)
    · trivial
    · rw [hr] at r1
      obtain ⟨ph, q, b⟩ := r1
      have eph : ph = 1 := q.1.1
      rw [eph] at b
      exact ⟨1, Or.inl ⟨rfl, q.2, q.1.2⟩, b.push (by omega) (by omega) hop.2⟩
    · rw [hr] at r1
      exact r1
theorem eqF {tk : TkF} {w n : Nat} (hS : EqS tk w n) (hT : EqT tk w n) (hF : EqF tk w n) (hK : EqK tk w n) : EqF tk w (n + 1) := by
  intro s F fr S ht h0 hbg hl
  have hfirst : (tst F.1 && F.2.2.1) = true := by rw [ht, hbg]; rfl
  have fin : ∀ r, mOp tk w s.1 s.2.1 s.2.2 S F fr = r → Gs tk w (s.1, s.2.1, s.2.2, S, F :: fr, false) r := fun r h => Gs.one h
  show Rt tk w _ 3 S (mkF0 F) fr _ (if isW tk s.1 25 = true then bP (opn tk s) fun s1 => bP (pG tk w n 2 s1) fun s2 => some (.inl (adc 43 (clo s2)))
      else if isG tk s.1 91 = true then bP (opn tk s) fun s1 => bP (pG tk w n 0 s1) fun s2 => bP (tks tk 93 s2) fun s3 => some (.inl (clo s3))
      else if isW tk s.1 26 = true then some (.inl (adc 30 (s.1 + 1, s.2)))
      else bP (pG tk w n 4 s) (pG tk w n 3))
  by_cases c25 : isW tk s.1 25 = true
  · rw [if_pos c25]
    have k4 : ¬ (tk s.1).1 = 4 := by have := (isW_kd c25).1; omega
    unfold opn
    by_cases o7 : s.2.1 = 7
    · rw [if_pos o7]
      refine fin _ ?_
      unfold mOp
      rw [if_neg k4, if_pos ⟨hfirst, c25⟩, if_pos o7]
    · rw [if_neg o7, bP_ok]
      have go : Gs tk w (s.1, s.2.1, s.2.2, S, F :: fr, false) (.inl (s.1 + 1, s.2.1 + 1, s.2.2, 43 :: S, F :: fr, false)) := fin _ (by
        unfold mOp
        rw [if_neg k4, if_pos ⟨hfirst, c25⟩, if_neg o7])
      have r1 := Rt.tr go (hF (s.1 + 1, s.2.1 + 1, s.2.2) F fr (43 :: S) ht h0 hbg (low.cons hl.1 (by decide)))
      have og := pG_open tk w n 2 (s.1 + 1, s.2.1 + 1, s.2.2)
      rcases hr : pG tk w n 2 (s.1 + 1, s.2.1 + 1, s.2.2) with _ | (s2 | x)
      · trivial
      · rw [hr] at r1
        obtain ⟨ph, q, H, cm, a1, a2, a3⟩ := r1
        have o2 : s2.2.1 = s.2.1 + 1 := og s2 hr
        refine ⟨ph, q, H ++ [43], cm, ?_, ?_, fun x hx => ?_⟩
        · have e : (adc 43 (clo s2)).2.1 + (H ++ [43]).count 43 = s2.2.1 + H.count 43 := by
            show s2.2.1 - 1 + (H ++ [43]).count 43 = _
            rw [List.count_append, List.count_singleton, if_pos (by decide)]
            omega
          rw [e, List.append_assoc]
          exact a1
        · show cm ++ (H ++ [43]).map _ = s2.2.2 ++ [(43, 0)]
          rw [List.map_append, ← List.append_assoc]
          show cm ++ zro H ++ [(43, 0)] = _
          rw [a2]
        · rcases List.mem_append.mp hx with z | z
          · exact a3 x z
          · rw [List.mem_singleton.mp z]; decide
      · rw [hr] at r1
        exact r1
  · rw [if_neg c25]
    by_cases c91 : isG tk s.1 91 = true
    · rw [if_pos c91]
      have k4 : ¬ (tk s.1).1 = 4 := by have := (isG_kd c91).1; omega
      have m0 : mOp tk w s.1 s.2.1 s.2.2 S F fr = mpu tk 5 0 s.1 s.2.1 s.2.2 S (mkF0 F F.2.1 :: fr) := by
        unfold mOp
        rw [if_neg k4, if_neg (fun z => c25 z.2), if_pos ⟨hfirst, c91⟩]
        rfl
      unfold opn
      by_cases o7 : s.2.1 = 7
      · rw [if_pos o7]
        refine fin _ (m0.trans ?_)
        unfold mpu
        rw [if_pos o7]
      · rw [if_neg o7, bP_ok]
        have go := fin _ m0
        unfold mpu at go
        rw [if_neg o7] at go
        refine test_to hT (s.1 + 1, s.2.1 + 1, s.2.2) (5, 0, true, 0, S.length) (mkF0 F F.2.1 :: fr) S (Or.inl rfl) rfl rfl rfl 93 rfl (Rt tk w _ 3 S (mkF0 F) fr (QF tk)) _ trivial (fun x hx => go.tr hx) (fun s2 ph c K np => ?_)
        refine ⟨2, Or.inr rfl, Af.done (go.tr (K _ (fun ops c' o e => ?_)))⟩
        rw [mGo_cb np rfl c]
        show Sum.inl (s2.1 + 1, (jn 1 S.length ops c' o).2.2 - 1, (jn 1 S.length ops c' o).2.1, (jn 1 S.length ops c' o).1, _ :: fr, true) = _
        rw [e]
        rfl
    · rw [if_neg c91]
      by_cases c26 : isW tk s.1 26 = true
      · rw [if_pos c26]
        have k4 : ¬ (tk s.1).1 = 4 := by have := (isW_kd c26).1; omega
        refine ⟨2, Or.inr rfl, Af.done (fin _ ?_)⟩
        unfold mOp
        rw [if_neg k4, if_neg (fun z => c25 z.2), if_neg (fun z => c91 z.2), if_pos ⟨hfirst, c26⟩]
        rfl
      · rw [if_neg c26]
        have hsp : ¬ spc tk F s.1 := fun z => by rcases z.2 with y | y | y <;> contradiction
        have r1 := hS s F fr S hsp (by omega) hl
        rcases hr : pG tk w n 4 s with _ | (s1 | x)
        · trivial
        · rw [hr] at r1
          obtain ⟨ph, q, a⟩ := r1
          have eph : ph = 0 := q.1.1.trans h0
          rw [eph] at a
          rw [bP_ok]
          exact hK _ s1 F fr S ht q.2 q.1.2 hl a
        · rw [hr] at r1
          exact r1
theorem eqB {tk : TkF} {w n : Nat} (hF : EqF tk w n) : EqB tk w (n + 1) := by
  intro s F fr S ht h0 hbg hl
  show Rt tk w _ 2 S (mkF0 F) fr _ (bP (pG tk w n 2 s) (plp (pG tk w n 2) (sAnd tk) 1600))
  have r1 := hF s F fr S ht h0 hbg (hl.up (by omega))
  rcases hr : pG tk w n 2 s with _ | (s1 | x)
  · trivial
  · rw [hr] at r1
    obtain ⟨ph, q, a⟩ := r1
    rw [bP_ok]
    refine Rt.loop (l := 2) (l' := 3) (Q' := QF tk) (F2 := (F.1, 0, true, F.2.2.2)) (pG tk w n 2) (sAnd tk) (by omega) (fun k op c => ?_) (fun s ph H cm op q hH hc c => ?_) (fun s op c => ?_) 1600 s1 ⟨ph, q, a.weak (by omega)⟩
    · rw [(sep_kd.2.1 c).2]; decide
    · show mGo tk s.1 (s.2.1 + H.count 43) cm (H ++ S) (mkF0 F ph) fr = _
      have c27 : isW tk s.1 27 = true := by
        unfold sAnd at c
        split at c
        · assumption
        · cases c
      have e := jn_spec (l := 2) hl H cm s.2.1 hH
      rw [mGo_rest (by have := (isW_kd c27).1; omega) (QF.nop (F := F) q), if_pos ⟨ht, c27⟩]
      show Sum.inl (s.1 + 1, (jn 2 F.2.2.2.2 (H ++ S) cm (s.2.1 + H.count 43)).2.2, (jn 2 F.2.2.2.2 (H ++ S) cm (s.2.1 + H.count 43)).2.1, 41 :: (jn 2 F.2.2.2.2 (H ++ S) cm (s.2.1 + H.count 43)).1, _, false) = _
      rw [e, hc, (sep_kd.2.1 c).2]
      rfl
    · have hop : rnk op < 5 := by rw [(sep_kd.2.1 c).2]; decide
      exact hF (s.1 + 1, s.2) (F.1, 0, true, F.2.2.2) fr (op :: S) ht rfl rfl (low.cons hl.1 hop)
  · rw [hr] at r1
    exact r1
theorem eqT {tk : TkF} {w n : Nat} (hB : EqB tk w n) : EqT tk w (n + 1) := by
  intro s F fr S ht h0 hbg hl
  show Rt tk w _ 1 S (mkF0 F) fr _ (bP (pG tk w n 1 s) (plp (pG tk w n 1) (sOr tk) 1600))
  have r1 := hB s F fr S ht h0 hbg (hl.up (by omega))
  rcases hr : pG tk w n 1 s with _ | (s1 | x)
  · trivial
  · rw [hr] at r1
    obtain ⟨ph, q, a⟩ := r1
    rw [bP_ok]
    refine Rt.loop (l := 1) (l' := 2) (Q' := fun ph k => QF tk ph k ∧ sAnd tk k = none) (F2 := (F.1, 0, true, F.2.2.2)) (pG tk w n 1) (sOr tk) (by omega) (fun k op c => ?_) (fun s ph H cm op q hH hc c => ?_) (fun s op c => ?_) 1600 s1 ⟨ph, q, a.weak (by omega)⟩
    · rw [(sep_kd.1 c).2]; decide
    · show mGo tk s.1 (s.2.1 + H.count 43) cm (H ++ S) (mkF0 F ph) fr = _
      have c28 : isW tk s.1 28 = true := by
        unfold sOr at c
        split at c
        · assumption
        · cases c
      have c27 : ¬ isW tk s.1 27 = true := fun z => by have := (isW_kd z).2; have := (isW_kd c28).2; omega
      have e := jn_spec (l := 1) hl H cm s.2.1 hH
      rw [mGo_rest (by have := (isW_kd c28).1; omega) (QF.nop (F := F) q.1), if_neg (fun z => c27 z.2), if_pos ⟨ht, c28⟩]
      show Sum.inl (s.1 + 1, (jn 1 F.2.2.2.2 (H ++ S) cm (s.2.1 + H.count 43)).2.2, (jn 1 F.2.2.2.2 (H ++ S) cm (s.2.1 + H.count 43)).2.1, 42 :: (jn 1 F.2.2.2.2 (H ++ S) cm (s.2.1 + H.count 43)).1, _, false) = _
      rw [e, hc, (sep_kd.1 c).2]
      rfl
    · have hop : rnk op < 2 := by rw [(sep_kd.1 c).2]; decide
      exact hB (s.1 + 1, s.2) (F.1, 0, true, F.2.2.2) fr (op :: S) ht rfl rfl (low.cons hl.1 hop)
  · rw [hr] at r1
    exact r1
theorem eq_all (tk : TkF) (w : Nat) : ∀ n, (∀ m, m ≤ n → EqS tk w m) ∧ (∀ m, m ≤ n → EqT tk w m) ∧ EqA tk w n ∧ EqP tk w n ∧ EqK tk w n ∧ EqF tk w n ∧ EqB tk w n
  | 0 => by
    have z : ∀ j s, pG tk w 0 j s = none := fun j s => by unfold pG; rfl
    refine ⟨fun m hm => ?_, fun m hm => ?_, ?_, ?_, ?_, ?_, ?_⟩
    · have : m = 0 := by omega
      subst this
      intro s F fr S _ _ _
      rw [z]; trivial
    · have : m = 0 := by omega
      subst this
      intro s F fr S _ _ _ _
      rw [z]; trivial
    · intro s F fr S _
      rw [z]; trivial
    · intro s F fr S _ _ _
      rw [z]; trivial
    · intro st s F fr S _ _ _ _ _
      rw [z]; trivial
    · intro s F fr S _ _ _ _
      rw [z]; trivial
    · intro s F fr S _ _ _ _
      rw [z]; trivial
  | n + 1 => by
    obtain ⟨i1, i2, i3, i4, i5, i6, i7⟩ := eq_all tk w n
    have nn := Nat.le_refl n
    refine ⟨fun m hm => ?_, fun m hm => ?_, eqA i1 i2, eqP i3, eqK (i1 n nn), eqF (i1 n nn) (i2 n nn) i6 i5, eqB i6⟩
    · by_cases z : m = n + 1
      · subst z; exact eqS i4
      · exact i1 m (by omega)
    · by_cases z : m = n + 1
      · subst z; exact eqT i7
      · exact i2 m (by omega)
/-- a whole test: what the machine ends with -/
theorem eq_test (tk : TkF) (w n k : Nat) (c : List (Int × Int)) : match pG tk w n 0 (k, 0, c) with
    | some (.inl s') => if (tk s'.1).1 = 4 then Gs tk w (k, 0, c, [], [(1, 0, true, 0, 0)], false) (.inr (.inr (1, (tk s'.1).2.1))) else Gs tk w (k, 0, c, [], [(1, 0, true, 0, 0)], false) (.inr (.inl (s'.1, s'.2.2)))
    | some (.inr x) => Gs tk w (k, 0, c, [], [(1, 0, true, 0, 0)], false) (.inr (.inr x))
    | none => True := by
  have r := (eq_all tk w n).2.1 n (Nat.le_refl _) (k, 0, c) (1, 0, true, 0, 0) [] [] rfl rfl rfl (low.base 1 [])
  rcases hr : pG tk w n 0 (k, 0, c) with _ | (s' | x)
  · trivial
  · rw [hr] at r
    obtain ⟨ph, ⟨⟨q, qa⟩, qo⟩, a⟩ := r
    dsimp only
    split
    · rename_i k4
      obtain ⟨H, cm, a1, a2, a3⟩ := a
      refine a1.tr (Gs.one ?_)
      show mGo tk s'.1 _ _ _ _ _ = _
      unfold mGo
      rw [if_pos k4]
    · rename_i k4
      refine a.go (low.base 1 []) (fun ops c' o e => ?_)
      rw [mGo_dn k4 (QF.nop (F := (1, 0, true, 0, 0)) q) (by show (1 : Int) < 2; decide) ⟨qa, qo⟩]
      have e' : jn 1 0 ops c' o = ([], s'.2.2, s'.2.1) := e
      show Sum.inr (Sum.inl (s'.1, (jn 1 0 ops c' o).2.1)) = _
      rw [e']
  · rw [hr] at r
    exact r
