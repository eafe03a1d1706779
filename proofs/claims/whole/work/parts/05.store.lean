/-! ===== locals ===== -/
def clrE (env : List Slot) (i : Nat) : List Slot := match i with
  | 0 => env
  | j + 1 => match env[j]? with
    | some (.val v) => if v.category = 2 then env.set j .unset else env
    | _ => env
def st1 (env : List Slot) (i : Nat) (v : Value) : List Slot := (clrE env i).set i (.val v)
def st2 (env : List Slot) (i : Nat) (v : Value) : List Slot := ((clrE env i).set i (.val v)).set (i + 1) .second
theorem clrE_at {env : List Slot} {i k : Nat} {w : Value} (h : (clrE env i)[k]? = some (.val w)) : env[k]? = some (.val w) ∧ ¬ (k + 1 = i ∧ w.category = 2) := by
  unfold clrE at h
  split at h
  · exact ⟨h, by omega⟩
  · rename_i j
    split at h
    · rename_i v hv
      split at h
      · by_cases e : k = j
        · subst e
          rw [List.getElem?_set_self (List.getElem?_eq_some_iff.mp hv).1] at h
          cases h
        · rw [List.getElem?_set_ne (fun z => e z.symm)] at h
          exact ⟨h, by omega⟩
      · rename_i hc
        refine ⟨h, fun z => ?_⟩
        have e : k = j := by omega
        subst e
        rw [hv] at h
        cases h
        exact hc z.2
    · rename_i hn
      refine ⟨h, fun z => ?_⟩
      have e : k = j := by omega
      subst e
      exact hn w h
theorem st1_at {env : List Slot} {i k : Nat} {v w : Value} (h : (st1 env i v)[k]? = some (.val w)) : (k = i ∧ w = v) ∨ (k ≠ i ∧ env[k]? = some (.val w) ∧ ¬ (k + 1 = i ∧ w.category = 2)) := by
  unfold st1 at h
  by_cases e : k = i
  · subst e
    rw [List.getElem?_set] at h
    split at h
    · split at h
      · cases h; exact Or.inl ⟨rfl, rfl⟩
      · cases h
    · exact absurd rfl ‹_›
  · rw [List.getElem?_set_ne (fun z => e z.symm)] at h
    exact Or.inr ⟨e, clrE_at h⟩
theorem st2_at {env : List Slot} {i k : Nat} {v w : Value} (h : (st2 env i v)[k]? = some (.val w)) : (k = i ∧ w = v) ∨ (k ≠ i ∧ k ≠ i + 1 ∧ env[k]? = some (.val w) ∧ ¬ (k + 1 = i ∧ w.category = 2)) := by
  unfold st2 at h
  by_cases e2 : k = i + 1
  · subst e2
    rw [List.getElem?_set] at h
    split at h
    · split at h
      · cases h
      · cases h
    · exact absurd rfl ‹_›
  · rw [List.getElem?_set_ne (fun z => e2 z.symm)] at h
    by_cases e : k = i
    · subst e
      rw [List.getElem?_set] at h
      split at h
      · split at h
        · cases h; exact Or.inl ⟨rfl, rfl⟩
        · cases h
      · exact absurd rfl ‹_›
    · rw [List.getElem?_set_ne (fun z => e z.symm)] at h
      exact Or.inr ⟨e, e2, clrE_at h⟩
theorem st1_ok {env : List Slot} {i n : Nat} {v : Value} (hE : ∀ w, Slot.val w ∈ env → vok n w) (hv : vok n v) : ∀ w, Slot.val w ∈ st1 env i v → vok n w := by
  intro w hw
  obtain ⟨k, hk⟩ := List.getElem?_of_mem hw
  rcases st1_at hk with ⟨-, rfl⟩ | ⟨-, h, -⟩
  · exact hv
  · exact hE w (List.mem_of_getElem? h)
theorem st2_ok {env : List Slot} {i n : Nat} {v : Value} (hE : ∀ w, Slot.val w ∈ env → vok n w) (hv : vok n v) : ∀ w, Slot.val w ∈ st2 env i v → vok n w := by
  intro w hw
  obtain ⟨k, hk⟩ := List.getElem?_of_mem hw
  rcases st2_at hk with ⟨-, rfl⟩ | ⟨-, -, h, -⟩
  · exact hv
  · exact hE w (List.mem_of_getElem? h)
def lvOf (env : List Slot) (ad : Nat → Nat) : List (Nat × Value) := (List.range env.length).filterMap fun (k : Nat) => match (env[k]? : Option Slot) with
  | some (Slot.val v) => some (k, cvv ad v)
  | _ => none
theorem lvOf_mem {env : List Slot} {ad : Nat → Nat} {q : Nat × Value} : q ∈ lvOf env ad ↔ ∃ v, env[q.1]? = some (.val v) ∧ q.2 = cvv ad v := by
  unfold lvOf
  rw [List.mem_filterMap]
  constructor
  · rintro ⟨k, -, h⟩
    split at h
    · rename_i v hv
      cases h
      exact ⟨v, hv, rfl⟩
    · cases h
  · rintro ⟨v, h1, h2⟩
    refine ⟨q.1, List.mem_range.mpr (List.getElem?_eq_some_iff.mp h1).1, ?_⟩
    rw [h1]
    show some (q.1, cvv ad v) = some q
    rw [← h2]
theorem Lcs.has {ls : Array Slot} {nL : Nat} {env : List Slot} {ad : Nat → Nat} (h : Lcs ls nL env ad) : lv_has ls nL (lvOf env ad) := ⟨h.1, h.2.1, fun q hq => by
  obtain ⟨v, h1, h2⟩ := lvOf_mem.mp hq
  rw [h2]
  exact h.2.2 q.1 v h1⟩
theorem Lcs.of1 {ls : Array Slot} {nL i : Nat} {env : List Slot} {ad : Nat → Nat} {v : Value} (h : lv_has ls nL ((i, cvv ad v) :: (lvOf env ad).filter (fun q => !(q.1 == i) && !(q.1 + 1 == i && q.2.category == 2)))) : Lcs ls nL (st1 env i v) ad := by
  refine ⟨h.1, h.2.1, fun k w hw => ?_⟩
  rcases st1_at hw with ⟨rfl, rfl⟩ | ⟨h1, h2, h3⟩
  · exact h.2.2 (k, cvv ad w) List.mem_cons_self
  · refine h.2.2 (k, cvv ad w) (List.mem_cons_of_mem _ (List.mem_filter.mpr ⟨lvOf_mem.mpr ⟨w, h2, rfl⟩, ?_⟩))
    simp only [cvv_cat, Bool.and_eq_true, Bool.not_eq_true', beq_eq_false_iff_ne, ne_eq, h1, not_false_eq_true, true_and, Bool.and_eq_false_iff]
    by_cases e : k + 1 = i
    · exact Or.inr (fun z => h3 ⟨e, z⟩)
    · exact Or.inl e
theorem Lcs.of2 {ls : Array Slot} {nL i : Nat} {env : List Slot} {ad : Nat → Nat} {v : Value} (h : lv_has ls nL ((i, cvv ad v) :: (lvOf env ad).filter (fun q => !(q.1 == i) && (!(q.1 == i + 1) && !(q.1 + 1 == i && q.2.category == 2))))) : Lcs ls nL (st2 env i v) ad := by
  refine ⟨h.1, h.2.1, fun k w hw => ?_⟩
  rcases st2_at hw with ⟨rfl, rfl⟩ | ⟨h1, h1', h2, h3⟩
  · exact h.2.2 (k, cvv ad w) List.mem_cons_self
  · refine h.2.2 (k, cvv ad w) (List.mem_cons_of_mem _ (List.mem_filter.mpr ⟨lvOf_mem.mpr ⟨w, h2, rfl⟩, ?_⟩))
    simp only [cvv_cat, Bool.and_eq_true, Bool.not_eq_true', beq_eq_false_iff_ne, ne_eq, h1, h1', not_false_eq_true, true_and, Bool.and_eq_false_iff]
    by_cases e : k + 1 = i
    · exact Or.inr (fun z => h3 ⟨e, z⟩)
    · exact Or.inl e
def lsI (k : Nat) (f : Ex Int32) : St := fun env h => (f env h).bind fun r => some (.inl 0, st1 env k (.int r.1), r.2)
def lsL (k : Nat) (f : Ex Int64) : St := fun env h => (f env h).bind fun r => some (.inl 0, st2 env k (.long r.1), r.2)
def lsR (k : Nat) (f : Ex (Option Nat)) : St := fun env h => (f env h).bind fun r => match r.1 with
  | some a => some (.inl 0, st1 env k (.ref a), r.2)
  | none => none
def incI (k : Nat) (n : Int32) : St := fun env h => match env[k]? with
  | some (.val (.int x)) => some (.inl 0, st1 env k (.int (x + n)), h)
  | _ => none
/-- a value is stored into a local -/
theorem JS.loc {α : Type} {inj : α → Value} {M : MI} {brk cont pc pc1 pc2 : Nat} {nx : List Nat} {f : Ex α} {g : St} {se : List Slot → α → List Slot} (hf : JX inj M 0 pc pc1 [] f) (hg : ∀ env h r env' h', g env h = some (r, env', h') → ∃ x, f env h = some (x, h') ∧ r = .inl 0 ∧ env' = se env x ∧ ((∀ n, (∀ w, Slot.val w ∈ env → vok n w) → vok n (inj x) → ∀ w, Slot.val w ∈ env' → vok n w) ∧
      ∀ G X, CCx M G X → ∀ H locs ls ad cells slots (st : List Value), Lcs ls M.2.2.1 env ad → (∀ ls', Lcs ls' M.2.2.1 env' ad → wX X H locs cells slots (F0 X.2.1.2.1 pc2 ls' st)) → wX X H locs cells slots (F0 X.2.1.2.1 pc1 ls (cvv ad (inj x) :: st)))) : JS M brk cont pc pc2 nx g := by
  intro env h r env' h' e κ hκ
  obtain ⟨x, e1, rfl, -, hok, row⟩ := hg env h r env' h' e
  obtain ⟨κ1, g1, l1, k1⟩ := hf env h x h' e1 κ hκ
  refine ⟨κ1, g1, l1, fun G X C hE A _ _ _ => k1 G X C hE [] rfl fun t ht => ?_⟩
  rcases ht with rfl | ht
  · intro H locs ls ad bk cells slots hW hL hEn hV hS hn0 had hc hsl
    refine row G X C H locs ls ad cells slots [] hL fun ls' hL' => ?_
    exact A rfl pc2 (Or.inl rfl) H locs ls' ad bk cells slots hW hL' (hok _ hEn (hV _ List.mem_cons_self)) (fun v hv => by cases hv) hS hn0 had hc hsl
  · cases ht
theorem lsI_some {k : Nat} {f : Ex Int32} {env : List Slot} {h : AH} {r : Nat ⊕ Option Value} {env' : List Slot} {h' : AH} (e : lsI k f env h = some (r, env', h')) : ∃ x, f env h = some (x, h') ∧ r = .inl 0 ∧ env' = st1 env k (.int x) := by
  obtain ⟨⟨x, h1⟩, e1, e⟩ := Option.bind_eq_some_iff.mp e
  cases e
  exact ⟨x, e1, rfl, rfl⟩
theorem lsL_some {k : Nat} {f : Ex Int64} {env : List Slot} {h : AH} {r : Nat ⊕ Option Value} {env' : List Slot} {h' : AH} (e : lsL k f env h = some (r, env', h')) : ∃ x, f env h = some (x, h') ∧ r = .inl 0 ∧ env' = st2 env k (.long x) := by
  obtain ⟨⟨x, h1⟩, e1, e⟩ := Option.bind_eq_some_iff.mp e
  cases e
  exact ⟨x, e1, rfl, rfl⟩
theorem lsR_some {k : Nat} {f : Ex (Option Nat)} {env : List Slot} {h : AH} {r : Nat ⊕ Option Value} {env' : List Slot} {h' : AH} (e : lsR k f env h = some (r, env', h')) : ∃ a, f env h = some (some a, h') ∧ r = .inl 0 ∧ env' = st1 env k (.ref a) := by
  obtain ⟨⟨x, h1⟩, e1, e⟩ := Option.bind_eq_some_iff.mp e
  cases x with
  | none => cases e
  | some a => cases e; exact ⟨a, e1, rfl, rfl⟩
theorem JS.is {M : MI} {brk cont pc pc1 i : Nat} {nx : List Nat} {f : Ex Int32} {k : Fin 4} (hf : JX Value.int M 0 pc pc1 [] f) (hk : (k : Nat) = i) (hn : i < M.2.2.1) (d : decode M.2.1 pc1 = .ok (.istore_n k, 1)) : JS M brk cont pc (pc1 + 1) nx (lsI i f) :=
  JS.loc (se := fun env x => st1 env i (.int x)) hf fun env h r env' h' e => by
    obtain ⟨x, e1, e2, rfl⟩ := lsI_some e
    exact ⟨x, e1, e2, rfl, fun n a b => st1_ok a b, fun G X C H locs ls ad cells slots st hL kk => lv_istore_n C.1 C.2.1 d hk hL.has hn rfl fun ls' h' => kk ls' (Lcs.of1 (v := .int x) h')⟩
theorem JS.is2 {M : MI} {brk cont pc pc1 i : Nat} {nx : List Nat} {f : Ex Int32} (hf : JX Value.int M 0 pc pc1 [] f) (hn : i < M.2.2.1) (d : decode M.2.1 pc1 = .ok (.istore i, 2)) : JS M brk cont pc (pc1 + 2) nx (lsI i f) :=
  JS.loc (se := fun env x => st1 env i (.int x)) hf fun env h r env' h' e => by
    obtain ⟨x, e1, e2, rfl⟩ := lsI_some e
    exact ⟨x, e1, e2, rfl, fun n a b => st1_ok a b, fun G X C H locs ls ad cells slots st hL kk => lv_istore C.1 C.2.1 d hL.has hn rfl fun ls' h' => kk ls' (Lcs.of1 (v := .int x) h')⟩
theorem JS.ls {M : MI} {brk cont pc pc1 i : Nat} {nx : List Nat} {f : Ex Int64} {k : Fin 4} (hf : JX Value.long M 0 pc pc1 [] f) (hk : (k : Nat) = i) (hn : i + 1 < M.2.2.1) (d : decode M.2.1 pc1 = .ok (.lstore_n k, 1)) : JS M brk cont pc (pc1 + 1) nx (lsL i f) :=
  JS.loc (se := fun env x => st2 env i (.long x)) hf fun env h r env' h' e => by
    obtain ⟨x, e1, e2, rfl⟩ := lsL_some e
    exact ⟨x, e1, e2, rfl, fun n a b => st2_ok a b, fun G X C H locs ls ad cells slots st hL kk => lv_lstore_n C.1 C.2.1 d hk hL.has hn rfl fun ls' h' => kk ls' (Lcs.of2 (v := .long x) h')⟩
theorem JS.ls2 {M : MI} {brk cont pc pc1 i : Nat} {nx : List Nat} {f : Ex Int64} (hf : JX Value.long M 0 pc pc1 [] f) (hn : i + 1 < M.2.2.1) (d : decode M.2.1 pc1 = .ok (.lstore i, 2)) : JS M brk cont pc (pc1 + 2) nx (lsL i f) :=
  JS.loc (se := fun env x => st2 env i (.long x)) hf fun env h r env' h' e => by
    obtain ⟨x, e1, e2, rfl⟩ := lsL_some e
    exact ⟨x, e1, e2, rfl, fun n a b => st2_ok a b, fun G X C H locs ls ad cells slots st hL kk => lv_lstore C.1 C.2.1 d hL.has hn rfl fun ls' h' => kk ls' (Lcs.of2 (v := .long x) h')⟩
theorem JS.as {M : MI} {brk cont pc pc1 i : Nat} {nx : List Nat} {f : Ex (Option Nat)} {k : Fin 4} (hf : JX va_rf M 0 pc pc1 [] f) (hk : (k : Nat) = i) (hn : i < M.2.2.1) (d : decode M.2.1 pc1 = .ok (.astore_n k, 1)) : JS M brk cont pc (pc1 + 1) nx (lsR i f) :=
  JS.loc (se := fun env x => st1 env i (va_rf x)) hf fun env h r env' h' e => by
    obtain ⟨a, e1, e2, rfl⟩ := lsR_some e
    exact ⟨some a, e1, e2, rfl, fun n a b => st1_ok a b, fun G X C H locs ls ad cells slots st hL kk => lv_astore_n C.1 C.2.1 d hk hL.has hn rfl fun ls' h' => kk ls' (Lcs.of1 (v := .ref a) h')⟩
theorem JS.as2 {M : MI} {brk cont pc pc1 i : Nat} {nx : List Nat} {f : Ex (Option Nat)} (hf : JX va_rf M 0 pc pc1 [] f) (hn : i < M.2.2.1) (d : decode M.2.1 pc1 = .ok (.astore i, 2)) : JS M brk cont pc (pc1 + 2) nx (lsR i f) :=
  JS.loc (se := fun env x => st1 env i (va_rf x)) hf fun env h r env' h' e => by
    obtain ⟨a, e1, e2, rfl⟩ := lsR_some e
    exact ⟨some a, e1, e2, rfl, fun n a b => st1_ok a b, fun G X C H locs ls ad cells slots st hL kk => lv_astore C.1 C.2.1 d hL.has hn rfl fun ls' h' => kk ls' (Lcs.of1 (v := .ref a) h')⟩
theorem JS.inc {M : MI} {brk cont pc i : Nat} {nx : List Nat} {n : Int} {m : Int32} (hm : Int32.ofInt n = m) (hn : i < M.2.2.1) (d : decode M.2.1 pc = .ok (.iinc i n, 3)) : JS M brk cont pc (pc + 3) nx (incI i m) := by
  intro env h r env' h' e κ hκ
  unfold incI at e
  split at e
  · rename_i x hx
    cases e
    refine ⟨κ, hκ, kle_rf κ, fun G X C hE A _ _ _ H locs ls ad bk cells slots hW hL hEn hV hS hn0 had hc hsl => ?_⟩
    obtain ⟨k, hk⟩ := List.getElem?_of_mem (lvOf_mem.mpr ⟨_, hx, rfl⟩ : (i, cvv ad (.int x)) ∈ lvOf env ad)
    refine lv_iinc C.1 C.2.1 d hL.has hk (by rw [hm]) hn rfl fun ls' h' => ?_
    exact A rfl _ (Or.inl rfl) H locs ls' ad bk cells slots hW (Lcs.of1 (v := .int (x + m)) h') (st1_ok hEn vok_int) hV hS hn0 had hc hsl
  · cases e
