/-! ===== L2: what else is always true of the machine: operators, phases, pairs, the token ===== -/
def FrV (fr : List FRm) : Prop := ∀ F ∈ fr, (0 ≤ F.2.1 ∧ F.2.1 ≤ 2) ∧ (cal F = 1 → 36 ≤ F.2.2.2.1 ∧ F.2.2.2.1 ≤ 44)
def PaV (m : Nat) (s : MSt) : Prop := OpV s.2.2.2.1 ∧ FrV s.2.2.2.2.1 ∧ s.1 ≤ m
theorem FrV.cons {F : FRm} {fr : List FRm} (h : FrV fr) (a : 0 ≤ F.2.1 ∧ F.2.1 ≤ 2) (p : cal F = 1 → 36 ≤ F.2.2.2.1 ∧ F.2.2.2.1 ≤ 44) : FrV (F :: fr) := fun G hG => by
  rcases List.mem_cons.mp hG with z | z
  · rw [z]; exact ⟨a, p⟩
  · exact h G z
theorem OpV.cons {ops : List Int} (v : OpV ops) {x : Int} (hx : 31 ≤ x ∧ x ≤ 43) : OpV (x :: ops) := fun y hy => by
  rcases List.mem_cons.mp hy with z | z
  · rw [z]; exact hx
  · exact v y z
theorem if_none {p : Prop} [Decidable p] {f : Option Int} {op : Int} (e : (if p then f else none) = some op) : p ∧ f = some op := by
  split at e
  · rename_i z; exact ⟨z, e⟩
  · cases e
theorem PaV.op {tk : TkF} {w m k o : Nat} {c : List (Int × Int)} {ops : List Int} {F : FRm} {fr : List FRm} {t : MSt} (T : TkL tk m) (I : PaV m (k, o, c, ops, F :: fr, false)) (h : mOp tk w k o c ops F fr = .inl t) : PaV m t := by
  obtain ⟨v, q, hk⟩ := I
  have v : OpV ops := v
  have q : FrV (F :: fr) := q
  have hk : k ≤ m := hk
  have qF := q F List.mem_cons_self
  have qT : FrV fr := fun G hG => q G (List.mem_cons_of_mem _ hG)
  have one : ∀ ph : Int, 0 ≤ ph ∧ ph ≤ 2 → FrV ((F.1, ph, false, F.2.2.2) :: fr) := fun ph hp => FrV.cons (F := (F.1, ph, false, F.2.2.2)) qT hp (fun z => qF.2 z)
  have q' := one F.2.1 qF.1
  have lt : (tk k).1 = 1 ∨ (tk k).1 = 2 ∨ (tk k).1 = 3 → k + 1 ≤ m := fun z => T.lt hk z
  have push : ∀ (kind pr : Int) (k' : Nat) (r : MSt), (cal (kind, 0, true, pr, ops.length) = 1 → 36 ≤ pr ∧ pr ≤ 44) → k' + 1 ≤ m → mpu tk kind pr k' o c ops ((F.1, F.2.1, false, F.2.2.2) :: fr) = .inl r → PaV m r := by
    intro kind pr k' r hp hle hr
    unfold mpu at hr
    split at hr
    · cases hr
    · rw [← Sum.inl.inj hr]
      exact ⟨v, FrV.cons (F := (kind, 0, true, pr, ops.length)) q' ⟨Int.le_refl 0, (by decide : (0 : Int) ≤ 2)⟩ hp, hle⟩
  unfold mOp at h
  split at h
  · cases h
  split at h
  · rename_i c25
    split at h
    · cases h
    · rw [← Sum.inl.inj h]
      exact ⟨v.cons (by decide), q, lt (Or.inl (isW_kd c25.2).1)⟩
  split at h
  · rename_i c91
    exact push 5 0 k t (fun z => by simp [cal] at z) (lt (Or.inr (Or.inr (isG_kd c91.2).1))) h
  split at h
  · rename_i c26
    rw [← Sum.inl.inj h]
    exact ⟨v, one 2 (by decide), lt (Or.inl (isW_kd c26.2).1)⟩
  split at h
  · rename_i c40
    exact push 2 0 k t (fun z => by simp [cal] at z) (lt (Or.inr (Or.inr (isG_kd c40).1))) h
  split at h
  · rename_i cw
    have k1 := lt (Or.inl (by rcases cw with z | z | z <;> exact (isW_kd z).1))
    split at h
    · rename_i c40
      refine push _ _ (k + 1) t (fun _ => ?_) (T.lt k1 (Or.inr (Or.inr (isG_kd c40).1))) h
      split
      · decide
      · split <;> decide
    · cases h
  split at h
  · rename_i c2
    rw [← Sum.inl.inj h]
    exact ⟨v, q', lt (Or.inr (Or.inl c2))⟩
  split at h
  · rename_i c1
    split at h
    · rw [← Sum.inl.inj h]
      exact ⟨v, q', lt (Or.inl c1)⟩
    · cases h
  · cases h
theorem PaV.go {tk : TkF} {m k o : Nat} {c : List (Int × Int)} {ops : List Int} {F : FRm} {fr : List FRm} {t : MSt} (T : TkL tk m) (I : PaV m (k, o, c, ops, F :: fr, true)) (h : mGo tk k o c ops F fr = .inl t) : PaV m t := by
  obtain ⟨v, q, hk⟩ := I
  have v : OpV ops := v
  have q : FrV (F :: fr) := q
  have hk : k ≤ m := hk
  have qF := q F List.mem_cons_self
  have qT : FrV fr := fun G hG => q G (List.mem_cons_of_mem _ hG)
  have vl := fun l => v.left l F.2.2.2.2 c o
  have lt : (tk k).1 = 1 ∨ (tk k).1 = 2 ∨ (tk k).1 = 3 → k + 1 ≤ m := fun z => T.lt hk z
  have ph : ∀ (x : Int) (bg : Bool), 0 ≤ x ∧ x ≤ 2 → FrV ((F.1, x, bg, F.2.2.2) :: fr) := fun x bg hx => FrV.cons (F := (F.1, x, bg, F.2.2.2)) qT hx (fun z => qF.2 z)
  unfold mGo at h
  split at h
  · cases h
  split at h
  · rename_i op e
    obtain ⟨e0, e⟩ := if_none e
    obtain ⟨k3, ho⟩ := sep_kd.2.2.1 e
    rw [← Sum.inl.inj h]
    exact ⟨(vl 5).cons (by omega), q, lt (Or.inr (Or.inr k3))⟩
  split at h
  · rename_i op e
    obtain ⟨e0, e⟩ := if_none e
    obtain ⟨k3, ho⟩ := sep_kd.2.2.2.1 e
    rw [← Sum.inl.inj h]
    exact ⟨(vl 6).cons (by omega), q, lt (Or.inr (Or.inr k3))⟩
  split at h
  · rename_i op e
    obtain ⟨e0, e⟩ := if_none e
    obtain ⟨k3, ho⟩ := sep_kd.2.2.2.2 e
    rw [← Sum.inl.inj h]
    exact ⟨(vl 5).cons (by omega), ph 1 F.2.2.1 (by decide), lt (Or.inr (Or.inr k3))⟩
  split at h
  · cases h
  split at h
  · rename_i cw
    rw [← Sum.inl.inj h]
    exact ⟨(vl 2).cons (by decide), ph 0 true (by decide), lt (Or.inl (isW_kd cw.2).1)⟩
  split at h
  · rename_i cw
    rw [← Sum.inl.inj h]
    exact ⟨(vl 1).cons (by decide), ph 0 true (by decide), lt (Or.inl (isW_kd cw.2).1)⟩
  split at h
  · cases h
  split at h
  · rename_i c36
    have cF : cal F = 1 := by unfold cal; rw [if_pos (by omega)]
    split at h
    · rename_i cg
      rw [← Sum.inl.inj h]
      exact ⟨vl 1, FrV.cons (F := ((if F.1 = 3 then 4 else 3), 0, F.2.2)) qT ⟨Int.le_refl 0, (by decide : (0 : Int) ≤ 2)⟩ (fun _ => qF.2 cF), lt (Or.inr (Or.inr (isG_kd cg).1))⟩
    · cases h
  by_cases cg : isG tk k (if F.1 = 5 then 93 else 41) = true
  · rw [if_pos cg] at h
    rw [← Sum.inl.inj h]
    refine ⟨vl 1, ?_, lt (Or.inr (Or.inr (isG_kd cg).1))⟩
    cases fr with
    | nil => exact fun G hG => absurd hG (by simp)
    | cons G r =>
      have gG := qT G List.mem_cons_self
      have qR : FrV r := fun X hX => qT X (List.mem_cons_of_mem _ hX)
      show FrV ((if F.1 = 5 then (G.1, 2, G.2.2) else G) :: r)
      split
      · exact FrV.cons (F := (G.1, 2, G.2.2)) qR ⟨(by decide : (0 : Int) ≤ 2), Int.le_refl 2⟩ (fun z => gG.2 z)
      · exact FrV.cons qR gG.1 gG.2
  · rw [if_neg cg] at h
    cases h
