/-! ===== L2: every reader writes down something of its kind ===== -/
def edj (j : Nat) : Nat := if j = 0 then 0 else if j = 1 then 1 else if j = 2 ∨ j = 3 then 2 else if j = 4 then 3 else if j = 5 then 4 else 5
def bdj (j : Nat) : Bool := decide (j ≤ 3)
def pdj (j : Nat) : List Bool := if j = 3 then [false] else []
theorem TyP.ok1 {w : Nat} {s : PSt} {c : Int × Int} {b : Bool} {e : Nat} (h1 : 10 * s.2.1 + e ≤ 400) (h2 : okD w [c]) (h3 : ∀ st, xty c st = some (b :: st)) : TyP w s (some (.inl (s.1 + 1, s.2.1, s.2.2 ++ [c]))) [] b e := fun s' eq => by
  have := Sum.inl.inj (Option.some.inj eq)
  refine ⟨[c], by rw [← this], by rw [← this]; show 1 + s.1 ≤ s.1 + 1; omega, h2, fun st hst => tyr_one (h3 st) (by rw [List.length_cons]; omega)⟩
theorem pG_ty {tk : TkF} {w : Nat} (hw : w ≤ 2) (hv : ∀ k, (tk k).1 = 2 → 0 ≤ (tk k).2.1 ∧ (tk k).2.1 ≤ 9999) : ∀ (n j : Nat) (s : PSt), j ≤ 9 → s.2.1 ≤ 7 → TyP w s (pG tk w n j s) (pdj j) (bdj j) (edj j)
  | 0, j, s, _, _ => fun s' e => by unfold pG at e; cases e
  | n + 1, j, s, hj9, h7 => by
    have ih := pG_ty hw hv n
    have op := pG_open tk w n
    have lp : ∀ (i : Nat) (b : Bool) (e : Nat) (sep : Nat → Option Int), i ≤ 9 → bdj i = b → pdj i = [] → e + 1 ≤ edj i → (∀ k op, sep k = some op → 11 ≤ op ∧ ∀ st, xty (op, 0) (b :: b :: st) = some (b :: st)) → TyP w s (bP (pG tk w n i s) (plp (pG tk w n i) sep 1600)) [] b e := fun i b e sep hi9 hb hp he hs => by
      have he5 : edj i ≤ 5 := by unfold edj; repeat (first | split | omega)
      refine TyP.of (fun s1 e1 => ?_)
      obtain ⟨d, k1, k2, k3, k4⟩ := ih i s hi9 h7 s1 e1
      rw [hb, hp] at k4
      refine TyP.seq (s1 := s1) (d := d) (p1 := [b]) k1 k2 k3 (fun st hst => k4 st (by omega)) (fun s' eq => ?_)
      have o1 : s1.2.1 = s.2.1 := op i s s1 e1
      have := plp_ty (w := w) (o := s.2.1) (e := e) (e' := edj i) (b := b) (pG tk w n i) sep he (by omega) (fun s2 h2 => by
        have := ih i s2 hi9 (by omega)
        rw [hb, hp] at this
        exact this) (fun s2 => op i s2) hs 1600 s1 o1 s' eq
      obtain ⟨d', m1, m2, m3, m4⟩ := this
      exact ⟨d', m1, m2, m3, fun st hst => m4 st (by rw [o1]; exact hst)⟩
    have arg : ∀ (sa sb : PSt) (sg : Int) (i : Nat), i ≤ 9 → sa.2.1 ≤ 7 → pdj i = [] → ∀ s2, pG tk w n i sa = some (.inl s2) → tks tk sg s2 = some (.inl sb) → ∃ d, sb.2.2 = sa.2.2 ++ d ∧ d.length + sa.1 + 1 ≤ sb.1 ∧ sb.2.1 = sa.2.1 ∧ okD w d ∧ ∀ st : List Bool, st.length ≤ 10 * sa.2.1 + edj i → tyr d st = some (bdj i :: st) := fun sa sb sg i hi9 h1 hp s2 e1 e2 => by
      obtain ⟨d, k1, k2, k3, k4⟩ := ih i sa hi9 h1 s2 e1
      rw [hp] at k4
      have o1 := op i sa s2 e1
      obtain ⟨-, rfl⟩ := tks_ok e2
      exact ⟨d, k1, by show d.length + sa.1 + 1 ≤ s2.1 + 1; omega, o1, k3, k4⟩
    match j with
    | 0 => exact lp 1 true 0 (sOr tk) (by decide) rfl rfl (by decide) (fun k op c => by rw [(sep_kd.1 c).2]; exact ⟨by decide, fun st => rfl⟩)
    | 1 => exact lp 2 true 1 (sAnd tk) (by decide) rfl rfl (by decide) (fun k op c => by rw [(sep_kd.2.1 c).2]; exact ⟨by decide, fun st => rfl⟩)
    | 2 =>
      show TyP w s (if isW tk s.1 25 = true then bP (opn tk s) fun s1 => bP (pG tk w n 2 s1) fun s2 => some (.inl (adc 43 (clo s2)))
        else if isG tk s.1 91 = true then bP (opn tk s) fun s1 => bP (pG tk w n 0 s1) fun s2 => bP (tks tk 93 s2) fun s3 => some (.inl (clo s3))
        else if isW tk s.1 26 = true then some (.inl (adc 30 (s.1 + 1, s.2)))
        else bP (pG tk w n 4 s) (pG tk w n 3)) [] true 2
      split
      · refine TyP.of (fun s1 e1 => TyP.of (fun s2 e2 s' eq => ?_))
        obtain ⟨n7, rfl⟩ := opn_ok e1
        obtain ⟨d, k1, k2, k3, k4⟩ := ih 2 (s.1 + 1, s.2.1 + 1, s.2.2) (by decide) (by show s.2.1 + 1 ≤ 7; omega) s2 e2
        have k1' : s2.2.2 = s.2.2 ++ d := k1
        have k2' : d.length + (s.1 + 1) ≤ s2.1 := k2
        have k4' : ∀ st : List Bool, st.length ≤ 10 * (s.2.1 + 1) + 2 → tyr d st = some (true :: st) := k4
        have := Sum.inl.inj (Option.some.inj eq)
        refine ⟨d ++ [(43, 0)], by rw [← this]; show s2.2.2 ++ [(43, 0)] = _; rw [k1', List.append_assoc], by rw [← this, List.length_append, List.length_singleton]; show _ ≤ s2.1; omega, k3.app (okD.op w (by decide) 0), fun st hst => tyr_seq (k4' st (by omega)) (tyr_one rfl (by rw [List.length_cons]; omega))⟩
      · split
        · refine TyP.of (fun s1 e1 => TyP.of (fun s2 e2 => TyP.of (fun s3 e3 s' eq => ?_)))
          obtain ⟨n7, rfl⟩ := opn_ok e1
          obtain ⟨d, k1, k2, k3, k4, k5⟩ := arg (s.1 + 1, s.2.1 + 1, s.2.2) s3 93 0 (by decide) (by show s.2.1 + 1 ≤ 7; omega) rfl s2 e2 e3
          have k2' : d.length + (s.1 + 1) + 1 ≤ s3.1 := k2
          have k5' : ∀ st : List Bool, st.length ≤ 10 * (s.2.1 + 1) + 0 → tyr d st = some (true :: st) := k5
          have := Sum.inl.inj (Option.some.inj eq)
          exact ⟨d, by rw [← this]; exact k1, by rw [← this]; show _ ≤ s3.1; omega, k4, fun st hst => k5' st (by omega)⟩
        · split
          · exact TyP.ok1 (by omega) (okD.op w (by decide) 0) (fun st => rfl)
          · refine TyP.of (fun s1 e1 => ?_)
            obtain ⟨d, k1, k2, k3, k4⟩ := ih 4 s (by decide) h7 s1 e1
            have o1 : s1.2.1 = s.2.1 := op 4 s s1 e1
            have k4' : ∀ st : List Bool, st.length ≤ 10 * s.2.1 + 3 → tyr d st = some (false :: st) := k4
            refine TyP.seq (s1 := s1) (d := d) (p1 := [false]) k1 k2 k3 (fun st hst => k4' st (by omega)) (fun s' eq => ?_)
            obtain ⟨d', m1, m2, m3, m4⟩ := ih 3 s1 (by decide) (by omega) s' eq
            exact ⟨d', m1, m2, m3, fun st hst => m4 st (by rw [o1]; exact hst)⟩
    | 3 =>
      show TyP w s (match sCmp tk s.1 with | none => some (.inr (wrg tk s.1)) | some op => bP (pG tk w n 4 (s.1 + 1, s.2)) fun s1 => some (.inl (adc op s1))) [false] true 2
      split
      · exact TyP.no w s _ _ _ _
      · rename_i op' c
        refine TyP.of (fun s1 e1 s' eq => ?_)
        obtain ⟨d, k1, k2, k3, k4⟩ := ih 4 (s.1 + 1, s.2) (by decide) h7 s1 e1
        have k1' : s1.2.2 = s.2.2 ++ d := k1
        have k2' : d.length + (s.1 + 1) ≤ s1.1 := k2
        have k4' : ∀ st : List Bool, st.length ≤ 10 * s.2.1 + 3 → tyr d st = some (false :: st) := k4
        have hop : 11 ≤ op' ∧ ∀ st : List Bool, xty (op', 0) (false :: false :: st) = some (true :: st) := by
          rcases (sep_kd.2.2.2.2 c).2 with z | z | z <;> rw [z] <;> exact ⟨by decide, fun st => rfl⟩
        have := Sum.inl.inj (Option.some.inj eq)
        exact ⟨d ++ [(op', 0)], by rw [← this]; show s1.2.2 ++ _ = _; rw [k1', List.append_assoc], by rw [← this, List.length_append, List.length_singleton]; show _ ≤ s1.1; omega, k3.app (okD.op w hop.1 0), fun st hst => tyr_seq (k4' (false :: st) (by rw [List.length_cons]; omega)) (tyr_one (hop.2 st) (by rw [List.length_cons]; omega))⟩
    | 4 => exact lp 5 false 3 (sSum tk) (by decide) rfl rfl (by decide) (fun k op c => by rcases (sep_kd.2.2.1 c).2 with z | z <;> rw [z] <;> exact ⟨by decide, fun st => rfl⟩)
    | 5 => exact lp 6 false 4 (sPro tk) (by decide) rfl rfl (by decide) (fun k op c => by rcases (sep_kd.2.2.2.1 c).2 with z | z | z <;> rw [z] <;> exact ⟨by decide, fun st => rfl⟩)
    | 6 =>
      show TyP w s (if isG tk s.1 40 = true then bP (opn tk s) fun s1 => bP (pG tk w n 4 s1) fun s2 => bP (tks tk 41 s2) fun s3 => some (.inl (clo s3))
        else if (tk s.1).1 = 2 then some (.inl (s.1 + 1, s.2.1, s.2.2 ++ [(0, (tk s.1).2.1)]))
        else if isW tk s.1 22 = true then pG tk w n 7 (s.1 + 1, s.2)
        else if isW tk s.1 23 = true then pG tk w n 8 (s.1 + 1, s.2)
        else if isW tk s.1 24 = true then pG tk w n 9 (s.1 + 1, s.2)
        else if (tk s.1).1 = 1 then (match fct w (tk s.1).2.1 with | some o => some (.inl (adc o (s.1 + 1, s.2))) | none => some (.inr (wrg tk s.1)))
        else some (.inr (wrg tk s.1))) [] false 5
      have up : ∀ i, i ≤ 9 → pdj i = [] → bdj i = false → edj i = 5 → TyP w s (pG tk w n i (s.1 + 1, s.2)) [] false 5 := fun i hi9 h1 h2 h3 s' eq => by
        obtain ⟨d, k1, k2, k3, k4⟩ := ih i (s.1 + 1, s.2) hi9 h7 s' eq
        rw [h1, h2, h3] at k4
        have k2' : d.length + (s.1 + 1) ≤ s'.1 := k2
        exact ⟨d, k1, by omega, k3, k4⟩
      split
      · refine TyP.of (fun s1 e1 => TyP.of (fun s2 e2 => TyP.of (fun s3 e3 s' eq => ?_)))
        obtain ⟨n7, rfl⟩ := opn_ok e1
        obtain ⟨d, k1, k2, k3, k4, k5⟩ := arg (s.1 + 1, s.2.1 + 1, s.2.2) s3 41 4 (by decide) (by show s.2.1 + 1 ≤ 7; omega) rfl s2 e2 e3
        have k2' : d.length + (s.1 + 1) + 1 ≤ s3.1 := k2
        have k5' : ∀ st : List Bool, st.length ≤ 10 * (s.2.1 + 1) + 3 → tyr d st = some (false :: st) := k5
        have := Sum.inl.inj (Option.some.inj eq)
        exact ⟨d, by rw [← this]; exact k1, by rw [← this]; show _ ≤ s3.1; omega, k4, fun st hst => k5' st (by omega)⟩
      · split
        · rename_i c2
          have := hv s.1 c2
          refine TyP.ok1 (by omega) (fun x hx => ?_) (fun st => ?_)
          · rw [List.mem_singleton.mp hx]
            exact ⟨Int.le_refl _, fun z => by have z1 : (1 : Int) ≤ 0 := z.1; omega⟩
          · unfold xty
            rw [if_pos rfl, if_pos this]
        · split
          · exact up 7 (by decide) rfl rfl rfl
          · split
            · exact up 8 (by decide) rfl rfl rfl
            · split
              · exact up 9 (by decide) rfl rfl rfl
              · split
                · split
                  · rename_i o' hfc
                    obtain ⟨f1, f2, f3⟩ := fct_ok hw hfc
                    refine TyP.ok1 (by omega) (fun x hx => ?_) (fun st => ?_)
                    · rw [List.mem_singleton.mp hx]
                      exact ⟨by show 0 ≤ o'; omega, fun _ => f3⟩
                    · unfold xty
                      rw [if_neg (by show ¬ o' = 0; omega), if_neg (by show ¬ o' = 30; omega), if_pos ⟨f1, f2⟩]
                  · exact TyP.no w s _ _ _ _
                · exact TyP.no w s _ _ _ _
    | j + 7 =>
      have e1 : pdj (j + 7) = [] := by unfold pdj; rw [if_neg (by omega)]
      have e2 : bdj (j + 7) = false := by unfold bdj; exact decide_eq_false (by omega)
      have e3 : edj (j + 7) = 5 := by unfold edj; rw [if_neg (by omega), if_neg (by omega), if_neg (by omega), if_neg (by omega), if_neg (by omega)]
      rw [e1, e2, e3]
      show TyP w s (if isG tk s.1 40 = true then bP (opn tk s) fun s0 => bP (if j + 7 = 9 then bP (pG tk w n 0 s0) (tks tk 44) else some (.inl s0)) fun s1 => bP (pG tk w n 4 s1) fun s2 => bP (tks tk 44 s2) fun s3 => bP (pG tk w n 4 s3) fun s4 => bP (tks tk 41 s4) fun s5 => some (.inl (adc (if j + 7 = 7 then 36 else if j + 7 = 8 then 37 else 44) (clo s5)))
        else some (.inr (wrg tk s.1))) [] false 5
      split
      · refine TyP.of (fun s0 e0 => TyP.of (fun s1 e1 => TyP.of (fun s2 e2 => TyP.of (fun s3 e3 => TyP.of (fun s4 e4 => TyP.of (fun s5 e5 s' eq => ?_))))))
        obtain ⟨n7, rfl⟩ := opn_ok e0
        have hs' := Sum.inl.inj (Option.some.inj eq)
        -- what lies below the two sums
        obtain ⟨q, d0, a1, a2, a3, a4, a5⟩ : ∃ (q : List Bool) (d0 : List (Int × Int)), s1.2.2 = s.2.2 ++ d0 ∧ d0.length + s.1 + 1 ≤ s1.1 ∧ s1.2.1 = s.2.1 + 1 ∧ okD w d0 ∧ (q = if j + 7 = 9 then [true] else []) ∧ ∀ st : List Bool, st.length ≤ 10 * s.2.1 + 5 → tyr d0 st = some (q ++ st) := by
          by_cases j9 : j + 7 = 9
          · rw [if_pos j9] at e1
            rcases hr : pG tk w n 0 (s.1 + 1, s.2.1 + 1, s.2.2) with _ | (sa | x)
            · rw [hr] at e1; cases e1
            · rw [hr, bP_ok] at e1
              obtain ⟨d, k1, k2, k3, k4, k5⟩ := arg (s.1 + 1, s.2.1 + 1, s.2.2) s1 44 0 (by decide) (by show s.2.1 + 1 ≤ 7; omega) rfl sa hr e1
              have k2' : d.length + (s.1 + 1) + 1 ≤ s1.1 := k2
              have k5' : ∀ st : List Bool, st.length ≤ 10 * (s.2.1 + 1) + 0 → tyr d st = some (true :: st) := k5
              exact ⟨[true], d, k1, by omega, k3, k4, by rw [if_pos j9], fun st hst => k5' st (by omega)⟩
            · rw [hr] at e1; cases e1
          · rw [if_neg j9] at e1
            have := Sum.inl.inj (Option.some.inj e1)
            exact ⟨[], [], by rw [← this, List.append_nil], by rw [← this]; show 0 + s.1 + 1 ≤ s.1 + 1; omega, by rw [← this], fun x hx => absurd hx (by simp), by rw [if_neg j9], fun st _ => rfl⟩
        have ql : q.length ≤ 1 := by rw [a5.1]; split <;> simp
        obtain ⟨d1, b1, b2, b3, b4, b5⟩ := arg s1 s3 44 4 (by decide) (by omega) rfl s2 e2 e3
        obtain ⟨d2, c1, c2, c3, c4, c5⟩ := arg s3 s5 41 4 (by decide) (by omega) rfl s4 e4 e5
        have b5' : ∀ st : List Bool, st.length ≤ 10 * s1.2.1 + 3 → tyr d1 st = some (false :: st) := b5
        have c5' : ∀ st : List Bool, st.length ≤ 10 * s3.2.1 + 3 → tyr d2 st = some (false :: st) := c5
        refine ⟨d0 ++ d1 ++ d2 ++ [(if j + 7 = 7 then 36 else if j + 7 = 8 then 37 else 44, 0)], ?_, ?_, ?_, fun st hst => ?_⟩
        · rw [← hs']
          show s5.2.2 ++ [_] = _
          rw [c1, b1, a1]
          simp only [List.append_assoc]
        · rw [← hs']
          simp only [List.length_append, List.length_singleton]
          show _ ≤ s5.1
          omega
        · exact ((a4.app b4).app c4).app (okD.op w (by repeat (first | split | decide)) 0)
        · have t0 := a5.2 st hst
          have t1 := b5' (q ++ st) (by rw [List.length_append]; omega)
          have t2 := c5' (false :: (q ++ st)) (by rw [List.length_cons, List.length_append]; omega)
          refine tyr_seq (tyr_seq (tyr_seq t0 t1) t2) (tyr_one ?_ (by rw [List.length_cons]; omega))
          rw [a5.1]
          by_cases j9 : j + 7 = 9
          · rw [if_pos j9, if_neg (by omega), if_neg (by omega)]; rfl
          · rw [if_neg j9]
            by_cases j7 : j + 7 = 7
            · rw [if_pos j7]; rfl
            · rw [if_neg j7]
              by_cases j8 : j + 7 = 8
              · rw [if_pos j8]; rfl
              · omega
      · exact TyP.no w s _ _ _ _
