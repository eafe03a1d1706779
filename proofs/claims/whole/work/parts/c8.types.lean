/-! ===== L2: what the parser writes down is a test ===== -/
theorem tyr_app : ∀ (a b : List (Int × Int)) (s : List Bool), tyr (a ++ b) s = (tyr a s).bind (tyr b)
  | [], b, s => rfl
  | c :: a, b, s => by
    show ((xty c s).bind fun t => if t.length ≤ 499 then tyr (a ++ b) t else none) = ((xty c s).bind fun t => if t.length ≤ 499 then tyr a t else none).bind (tyr b)
    rcases xty c s with _ | t
    · rfl
    · show (if t.length ≤ 499 then tyr (a ++ b) t else none) = (if t.length ≤ 499 then tyr a t else none).bind (tyr b)
      by_cases z : t.length ≤ 499
      · rw [if_pos z, if_pos z]; exact tyr_app a b t
      · rw [if_neg z, if_neg z]; rfl
theorem tyr_one {c : Int × Int} {s t : List Bool} (h : xty c s = some t) (hl : t.length ≤ 499) : tyr [c] s = some t := by
  show ((xty c s).bind fun t => if t.length ≤ 499 then tyr [] t else none) = _
  rw [h]
  show (if t.length ≤ 499 then tyr [] t else none) = _
  rw [if_pos hl]; rfl
theorem tyr_seq {a b : List (Int × Int)} {s t u : List Bool} (h1 : tyr a s = some t) (h2 : tyr b t = some u) : tyr (a ++ b) s = some u := by
  rw [tyr_app, h1]; exact h2
def okD (w : Nat) (d : List (Int × Int)) : Prop := ∀ x ∈ d, 0 ≤ x.1 ∧ (isfc x.1 → alw w x.1)
theorem okD.app {w : Nat} {a b : List (Int × Int)} (h1 : okD w a) (h2 : okD w b) : okD w (a ++ b) := fun x hx => (List.mem_append.mp hx).elim (h1 x) (h2 x)
theorem okD.op (w : Nat) {op : Int} (h : 11 ≤ op) (v : Int) : okD w [(op, v)] := fun x hx => by
  rw [List.mem_singleton.mp hx]
  exact ⟨by show 0 ≤ op; omega, fun z => by have z2 : op ≤ 10 := z.2; omega⟩
/-- a reader writes down something that leaves one value more; p: what lay on top of the rest ahead of it -/
def TyP (w : Nat) (s : PSt) (r : PRs) (p : List Bool) (b : Bool) (e : Nat) : Prop := ∀ s', r = some (.inl s') → ∃ d, s'.2.2 = s.2.2 ++ d ∧ d.length + s.1 ≤ s'.1 ∧ okD w d ∧ ∀ st : List Bool, st.length ≤ 10 * s.2.1 + e → tyr d (p ++ st) = some (b :: st)
theorem TyP.no (w : Nat) (s : PSt) (x : Int × Int) (p : List Bool) (b : Bool) (e : Nat) : TyP w s (some (.inr x)) p b e := fun s' h => by cases h
theorem TyP.of {w : Nat} {s : PSt} {r : PRs} {g : PSt → PRs} {p : List Bool} {b : Bool} {e : Nat} (h : ∀ s1, r = some (.inl s1) → TyP w s (g s1) p b e) : TyP w s (bP r g) p b e := fun s' eq => by
  rcases r with _ | (s1 | x)
  · cases eq
  · exact h s1 rfl s' eq
  · cases eq
/-- what was written down so far, then a reader -/
theorem TyP.seq {w : Nat} {s s1 : PSt} {r : PRs} {p p1 : List Bool} {b : Bool} {e : Nat} {d : List (Int × Int)} (h1 : s1.2.2 = s.2.2 ++ d) (h2 : d.length + s.1 ≤ s1.1) (h3 : okD w d) (h4 : ∀ st : List Bool, st.length ≤ 10 * s.2.1 + e → tyr d (p ++ st) = some (p1 ++ st)) (h5 : ∀ s', r = some (.inl s') → ∃ d, s'.2.2 = s1.2.2 ++ d ∧ d.length + s1.1 ≤ s'.1 ∧ okD w d ∧ ∀ st : List Bool, st.length ≤ 10 * s.2.1 + e → tyr d (p1 ++ st) = some (b :: st)) : TyP w s r p b e := fun s' eq => by
  obtain ⟨d1, k1, k2, k3, k4⟩ := h5 s' eq
  exact ⟨d ++ d1, by rw [k1, h1, List.append_assoc], by rw [List.length_append]; omega, h3.app k3, fun st hst => tyr_seq (h4 st hst) (k4 st hst)⟩
theorem plp_ty {w o e e' : Nat} {b : Bool} (f : PSt → PRs) (sep : Nat → Option Int) (hee : e + 1 ≤ e') (h9 : 10 * o + e' ≤ 400) (hf : ∀ s : PSt, s.2.1 = o → TyP w s (f s) [] b e') (ho : ∀ s : PSt, gdO s.2.1 (f s)) (hop : ∀ k op, sep k = some op → 11 ≤ op ∧ ∀ st, xty (op, 0) (b :: b :: st) = some (b :: st)) : ∀ (j : Nat) (s : PSt), s.2.1 = o → TyP w s (plp f sep j s) [b] b e
  | 0, s, h0 => by
    unfold plp
    split
    · intro s' eq
      have := Sum.inl.inj (Option.some.inj eq)
      exact ⟨[], by rw [← this, List.append_nil], by rw [← this]; exact Nat.le_of_eq (Nat.zero_add _), fun x hx => absurd hx (by simp), fun st _ => rfl⟩
    · exact fun s' eq => by cases eq
  | j + 1, s, h0 => by
    unfold plp
    split
    · intro s' eq
      have := Sum.inl.inj (Option.some.inj eq)
      exact ⟨[], by rw [← this, List.append_nil], by rw [← this]; exact Nat.le_of_eq (Nat.zero_add _), fun x hx => absurd hx (by simp), fun st _ => rfl⟩
    · rename_i op c
      refine TyP.of (fun s1 e1 => ?_)
      obtain ⟨d, k1, k2, k3, k4⟩ := hf (s.1 + 1, s.2) h0 s1 e1
      have o1 : s1.2.1 = o := (ho (s.1 + 1, s.2) s1 e1).trans h0
      obtain ⟨op1, op2⟩ := hop _ _ c
      have k1' : s1.2.2 = s.2.2 ++ d := k1
      have k2' : d.length + (s.1 + 1) ≤ s1.1 := k2
      have k4' : ∀ st : List Bool, st.length ≤ 10 * s.2.1 + e' → tyr d ([] ++ st) = some (b :: st) := k4
      refine TyP.seq (s1 := adc op s1) (d := d ++ [(op, 0)]) (p1 := [b]) (by show s1.2.2 ++ [(op, 0)] = _; rw [k1', List.append_assoc]) (by rw [List.length_append, List.length_singleton]; show _ ≤ s1.1; omega) (k3.app (okD.op w op1 0)) (fun st hst => ?_) (fun s' eq => ?_)
      · exact tyr_seq (k4' (b :: st) (by rw [List.length_cons]; omega)) (tyr_one (op2 st) (by show (b :: st).length ≤ 499; rw [List.length_cons]; rw [h0] at hst; omega))
      · have := plp_ty f sep hee h9 hf ho hop j (adc op s1) o1 s' eq
        obtain ⟨d', m1, m2, m3, m4⟩ := this
        exact ⟨d', m1, m2, m3, fun st hst => m4 st (by show st.length ≤ 10 * s1.2.1 + e; rw [o1, ← h0]; exact hst)⟩
theorem fct_ok {w : Nat} {v o : Int} (hw : w ≤ 2) (h : fct w v = some o) : 1 ≤ o ∧ o ≤ 10 ∧ alw w o := by
  have hw' : w = 0 ∨ w = 1 ∨ w = 2 := by omega
  unfold fct at h
  unfold alw
  rcases hw' with z | z | z <;> subst z <;> simp at h ⊢ <;> (repeat' split at h) <;> (try cases h) <;> simp_all <;> omega
