/-! ===== conditions ===== -/
def andX (a b : Ex Bool) : Ex Bool := fun env h => (a env h).bind fun r => if r.1 = true then b env r.2 else some (false, r.2)
def orX (a b : Ex Bool) : Ex Bool := fun env h => (a env h).bind fun r => if r.1 = true then some (true, r.2) else b env r.2
def notX (a : Ex Bool) : Ex Bool := fun env h => (a env h).bind fun r => some (!r.1, r.2)
def iteX {α : Type} (c : Ex Bool) (f g : Ex α) : Ex α := fun env h => (c env h).bind fun r => if r.1 = true then f env r.2 else g env r.2
theorem CJ.and_f {M : MI} {sh tgt pc pc1 pc2 : Nat} {nx : List Nat} {a b : Ex Bool} (ha : CJ M false sh tgt pc pc1 [] a) (hb : CJ M false sh tgt pc1 pc2 nx b) : CJ M false sh tgt pc pc2 nx (andX a b) := by
  intro env h z h' e κ hκ
  obtain ⟨⟨x, h1⟩, e1, e⟩ := Option.bind_eq_some_iff.mp e
  obtain ⟨κ1, g1, l1, k1⟩ := ha env h x h1 e1 κ hκ
  cases x with
  | true =>
    rw [if_pos rfl] at e
    obtain ⟨κ2, g2, l2, k2⟩ := hb env h1 z h' e κ1 g1
    refine ⟨κ2, g2, kle_tr l1 l2, fun G X C hE st hst A B => k1 G X C (kle_tr l2 hE) st hst (fun q => by cases q) fun _ t ht => ?_⟩
    rcases ht with rfl | ht
    · exact k2 G X C hE st hst A B
    · cases ht
  | false =>
    rw [if_neg (by simp)] at e
    cases e
    exact ⟨κ1, g1, l1, fun G X C hE st hst A B => k1 G X C hE st hst A (fun q => absurd rfl q)⟩
theorem CJ.and_t {M : MI} {sh l tgt pc pc1 pc2 : Nat} {nx : List Nat} {a b : Ex Bool} (ha : CJ M false sh l pc pc1 [] a) (hb : CJ M true sh tgt pc1 pc2 nx b) (hl : l = pc2 ∨ l ∈ nx) : CJ M true sh tgt pc pc2 nx (andX a b) := by
  intro env h z h' e κ hκ
  obtain ⟨⟨x, h1⟩, e1, e⟩ := Option.bind_eq_some_iff.mp e
  obtain ⟨κ1, g1, l1, k1⟩ := ha env h x h1 e1 κ hκ
  cases x with
  | true =>
    rw [if_pos rfl] at e
    obtain ⟨κ2, g2, l2, k2⟩ := hb env h1 z h' e κ1 g1
    refine ⟨κ2, g2, kle_tr l1 l2, fun G X C hE st hst A B => k1 G X C (kle_tr l2 hE) st hst (fun q => by cases q) fun _ t ht => ?_⟩
    rcases ht with rfl | ht
    · exact k2 G X C hE st hst A B
    · cases ht
  | false =>
    rw [if_neg (by simp)] at e
    cases e
    exact ⟨κ1, g1, l1, fun G X C hE st hst A B => k1 G X C hE st hst (fun _ => B (by decide) l hl) (fun q => absurd rfl q)⟩
theorem CJ.or_t {M : MI} {sh tgt pc pc1 pc2 : Nat} {nx : List Nat} {a b : Ex Bool} (ha : CJ M true sh tgt pc pc1 [] a) (hb : CJ M true sh tgt pc1 pc2 nx b) : CJ M true sh tgt pc pc2 nx (orX a b) := by
  intro env h z h' e κ hκ
  obtain ⟨⟨x, h1⟩, e1, e⟩ := Option.bind_eq_some_iff.mp e
  obtain ⟨κ1, g1, l1, k1⟩ := ha env h x h1 e1 κ hκ
  cases x with
  | false =>
    rw [if_neg (by simp)] at e
    obtain ⟨κ2, g2, l2, k2⟩ := hb env h1 z h' e κ1 g1
    refine ⟨κ2, g2, kle_tr l1 l2, fun G X C hE st hst A B => k1 G X C (kle_tr l2 hE) st hst (fun q => by cases q) fun _ t ht => ?_⟩
    rcases ht with rfl | ht
    · exact k2 G X C hE st hst A B
    · cases ht
  | true =>
    rw [if_pos rfl] at e
    cases e
    exact ⟨κ1, g1, l1, fun G X C hE st hst A B => k1 G X C hE st hst A (fun q => absurd rfl q)⟩
theorem CJ.or_f {M : MI} {sh l tgt pc pc1 pc2 : Nat} {nx : List Nat} {a b : Ex Bool} (ha : CJ M true sh l pc pc1 [] a) (hb : CJ M false sh tgt pc1 pc2 nx b) (hl : l = pc2 ∨ l ∈ nx) : CJ M false sh tgt pc pc2 nx (orX a b) := by
  intro env h z h' e κ hκ
  obtain ⟨⟨x, h1⟩, e1, e⟩ := Option.bind_eq_some_iff.mp e
  obtain ⟨κ1, g1, l1, k1⟩ := ha env h x h1 e1 κ hκ
  cases x with
  | false =>
    rw [if_neg (by simp)] at e
    obtain ⟨κ2, g2, l2, k2⟩ := hb env h1 z h' e κ1 g1
    refine ⟨κ2, g2, kle_tr l1 l2, fun G X C hE st hst A B => k1 G X C (kle_tr l2 hE) st hst (fun q => by cases q) fun _ t ht => ?_⟩
    rcases ht with rfl | ht
    · exact k2 G X C hE st hst A B
    · cases ht
  | true =>
    rw [if_pos rfl] at e
    cases e
    exact ⟨κ1, g1, l1, fun G X C hE st hst A B => k1 G X C hE st hst (fun _ => B (by decide) l hl) (fun q => absurd rfl q)⟩
theorem CJ.not_t {M : MI} {sh tgt pc pc2 : Nat} {nx : List Nat} {a : Ex Bool} (ha : CJ M false sh tgt pc pc2 nx a) : CJ M true sh tgt pc pc2 nx (notX a) := by
  intro env h z h' e κ hκ
  obtain ⟨⟨x, h1⟩, e1, e⟩ := Option.bind_eq_some_iff.mp e
  cases e
  obtain ⟨κ1, g1, l1, k1⟩ := ha env h x _ e1 κ hκ
  exact ⟨κ1, g1, l1, fun G X C hE st hst A B => k1 G X C hE st hst (fun q => A (by rw [q]; rfl)) (fun q => B (by cases x <;> simp_all))⟩
theorem CJ.not_f {M : MI} {sh tgt pc pc2 : Nat} {nx : List Nat} {a : Ex Bool} (ha : CJ M true sh tgt pc pc2 nx a) : CJ M false sh tgt pc pc2 nx (notX a) := by
  intro env h z h' e κ hκ
  obtain ⟨⟨x, h1⟩, e1, e⟩ := Option.bind_eq_some_iff.mp e
  cases e
  obtain ⟨κ1, g1, l1, k1⟩ := ha env h x _ e1 κ hκ
  exact ⟨κ1, g1, l1, fun G X C hE st hst A B => k1 G X C hE st hst (fun q => A (by rw [q]; rfl)) (fun q => B (by cases x <;> simp_all))⟩
/-- a choice between two conditions -/
theorem CJ.ite_f {M : MI} {sh l tgt pc pc1 pc2 pc3 lend : Nat} {nx : List Nat} {c a b : Ex Bool} {off : Int} (hc : CJ M false sh l pc pc1 [] c) (ha : CJ M false sh tgt pc1 pc2 [lend] a) (d : decode M.2.1 pc2 = .ok (.goto off, 3)) (ht : (pc2 : Int) + off = (lend : Int)) (hb : CJ M false sh tgt l pc3 nx b) (hl : lend = pc3 ∨ lend ∈ nx) : CJ M false sh tgt pc pc3 nx (iteX c a b) := by
  intro env h z h' e κ hκ
  obtain ⟨⟨x, h1⟩, e1, e⟩ := Option.bind_eq_some_iff.mp e
  obtain ⟨κ1, g1, l1, k1⟩ := hc env h x h1 e1 κ hκ
  cases x with
  | true =>
    rw [if_pos rfl] at e
    obtain ⟨κ2, g2, l2, k2⟩ := ha env h1 z h' e κ1 g1
    refine ⟨κ2, g2, kle_tr l1 l2, fun G X C hE st hst A B => k1 G X C (kle_tr l2 hE) st hst (fun q => by cases q) fun _ t ht' => ?_⟩
    rcases ht' with rfl | ht'
    · refine k2 G X C hE st hst A fun hz t ht2 => ?_
      have W1 := B hz lend hl
      rcases ht2 with rfl | ht2
      · intro H locs ls ad bk cells slots hW hL hEn hV hS hn0 had hcc hsl
        exact lv_goto C.1 C.2.1 d ht (W1 H locs ls ad bk cells slots hW hL hEn hV hS hn0 had hcc hsl)
      · rw [List.mem_singleton.mp ht2]
        exact W1
    · cases ht'
  | false =>
    rw [if_neg (by simp)] at e
    obtain ⟨κ2, g2, l2, k2⟩ := hb env h1 z h' e κ1 g1
    exact ⟨κ2, g2, kle_tr l1 l2, fun G X C hE st hst A B => k1 G X C (kle_tr l2 hE) st hst (fun _ => k2 G X C hE st hst A B) (fun q => absurd rfl q)⟩
theorem JX.ite {α : Type} {inj : α → Value} {M : MI} {sh l pc pc1 pc2 pc3 lend : Nat} {nx : List Nat} {c : Ex Bool} {f g : Ex α} {off : Int} (hc : CJ M false sh l pc pc1 [] c) (hf : JX inj M sh pc1 pc2 [lend] f) (d : decode M.2.1 pc2 = .ok (.goto off, 3)) (ht : (pc2 : Int) + off = (lend : Int)) (hg : JX inj M sh l pc3 nx g) (hl : lend = pc3 ∨ lend ∈ nx) : JX inj M sh pc pc3 nx (iteX c f g) := by
  intro env h z h' e κ hκ
  obtain ⟨⟨x, h1⟩, e1, e⟩ := Option.bind_eq_some_iff.mp e
  obtain ⟨κ1, g1, l1, k1⟩ := hc env h x h1 e1 κ hκ
  cases x with
  | true =>
    rw [if_pos rfl] at e
    obtain ⟨κ2, g2, l2, k2⟩ := hf env h1 z h' e κ1 g1
    refine ⟨κ2, g2, kle_tr l1 l2, fun G X C hE st hst A => k1 G X C (kle_tr l2 hE) st hst (fun q => by cases q) fun _ t ht' => ?_⟩
    rcases ht' with rfl | ht'
    · refine k2 G X C hE st hst fun t ht2 => ?_
      have W1 := A lend hl
      rcases ht2 with rfl | ht2
      · intro H locs ls ad bk cells slots hW hL hEn hV hS hn0 had hcc hsl
        exact lv_goto C.1 C.2.1 d ht (W1 H locs ls ad bk cells slots hW hL hEn hV hS hn0 had hcc hsl)
      · rw [List.mem_singleton.mp ht2]
        exact W1
    · cases ht'
  | false =>
    rw [if_neg (by simp)] at e
    obtain ⟨κ2, g2, l2, k2⟩ := hg env h1 z h' e κ1 g1
    exact ⟨κ2, g2, kle_tr l1 l2, fun G X C hE st hst A => k1 G X C (kle_tr l2 hE) st hst (fun _ => k2 G X C hE st hst A) (fun q => absurd rfl q)⟩
/-! ===== statements ===== -/
def skipS : St := fun env h => some (.inl 0, env, h)
def seqS (a b : St) : St := fun env h => (a env h).bind fun r => if r.1 = .inl 0 then b r.2.1 r.2.2 else some r
def ifS (c : Ex Bool) (a : St) : St := fun env h => (c env h).bind fun r => if r.1 = true then a env r.2 else some (.inl 0, env, r.2)
def ifeS (c : Ex Bool) (a b : St) : St := fun env h => (c env h).bind fun r => if r.1 = true then a env r.2 else b env r.2
def contS : St := fun env h => some (.inl 2, env, h)
def brkS : St := fun env h => some (.inl 1, env, h)
def retI (f : Ex Int32) : St := fun env h => (f env h).bind fun r => some (.inr (some (.int r.1)), env, r.2)
def retZ (f : Ex Int32) : St := fun env h => (f env h).bind fun r => if r.1 = 0 ∨ r.1 = 1 then some (.inr (some (.int r.1)), env, r.2) else none
def retL (f : Ex Int64) : St := fun env h => (f env h).bind fun r => some (.inr (some (.long r.1)), env, r.2)
def retR (f : Ex (Option Nat)) : St := fun env h => (f env h).bind fun r => some (.inr (some (va_rf r.1)), env, r.2)
def retV : St := fun env h => some (.inr none, env, h)
def whl (c : Ex Bool) (b : St) : Nat → St
  | 0 => fun _ _ => none
  | n + 1 => fun env h => (c env h).bind fun r => if r.1 = true then (b env r.2).bind fun r2 => if r2.1 = .inl 0 ∨ r2.1 = .inl 2 then whl c b n r2.2.1 r2.2.2 else if r2.1 = .inl 1 then some (.inl 0, r2.2) else some r2 else some (.inl 0, env, r.2)
def whileS (c : Ex Bool) (b : St) : St := whl c b 100000
def forB (b s : St) : St := fun env h => (b env h).bind fun r => if r.1 = .inl 0 ∨ r.1 = .inl 2 then s r.2.1 r.2.2 else some r
def cutE (env : List Slot) (n : Nat) : List Slot := env.take n ++ List.replicate (env.length - n) Slot.unset
def scS (n : Nat) (f : St) : St := fun env h => (f env h).bind fun r => some (r.1, cutE r.2.1 n, r.2.2)
def exS {α : Type} (f : Ex α) : St := fun env h => (f env h).bind fun r => some (.inl 0, env, r.2)
def Dead (f : St) : Prop := ∀ env h r, f env h = some r → r.1 ≠ .inl 0
theorem JS.skip {M : MI} {brk cont pc : Nat} {nx : List Nat} : JS M brk cont pc pc nx skipS := by
  intro env h r env' h' e κ hκ
  cases e
  exact ⟨κ, hκ, kle_rf κ, fun G X C hE A _ _ _ => A rfl pc (Or.inl rfl)⟩
theorem JS.seq {M : MI} {brk cont pc pc1 pc2 : Nat} {nx : List Nat} {a b : St} (ha : JS M brk cont pc pc1 [] a) (hb : JS M brk cont pc1 pc2 nx b) : JS M brk cont pc pc2 nx (seqS a b) := by
  intro env h r env' h' e κ hκ
  obtain ⟨⟨r1, env1, h1⟩, e1, e⟩ := Option.bind_eq_some_iff.mp e
  obtain ⟨κ1, g1, l1, k1⟩ := ha env h r1 env1 h1 e1 κ hκ
  dsimp only at e
  by_cases h0 : r1 = .inl 0
  · rw [if_pos h0] at e
    subst h0
    obtain ⟨κ2, g2, l2, k2⟩ := hb env1 h1 r env' h' e κ1 g1
    refine ⟨κ2, g2, kle_tr l1 l2, fun G X C hE A B D E => k1 G X C (kle_tr l2 hE) (fun _ t ht => ?_) (fun q => by cases q) (fun q => by cases q) (fun v q => by cases q)⟩
    rcases ht with rfl | ht
    · exact k2 G X C hE A B D E
    · cases ht
  · rw [if_neg h0] at e
    cases e
    exact ⟨κ1, g1, l1, fun G X C hE A B D E => k1 G X C hE (fun q => absurd q h0) B D E⟩
theorem AWg.goto {M : MI} {G : GX} {X : CX} (C : CCx M G X) {pc tgt : Nat} {off : Int} (d : decode M.2.1 pc = .ok (.goto off, 3)) (ht : (pc : Int) + off = (tgt : Int)) {env : List Slot} {st : List Value} {h : AH} {κ : KP} (A : AWg G X M.2.2.1 tgt env st h κ) : AWg G X M.2.2.1 pc env st h κ :=
  fun H locs ls ad bk cells slots hW hL hEn hV hS hn0 had hcc hsl => lv_goto C.1 C.2.1 d ht (A H locs ls ad bk cells slots hW hL hEn hV hS hn0 had hcc hsl)
theorem JS.cont {M : MI} {brk cont pc : Nat} {nx : List Nat} {off : Int} (d : decode M.2.1 pc = .ok (.goto off, 3)) (ht : (pc : Int) + off = (cont : Int)) : JS M brk cont pc (pc + 3) nx contS := by
  intro env h r env' h' e κ hκ
  cases e
  exact ⟨κ, hκ, kle_rf κ, fun G X C hE _ _ A _ => AWg.goto C d ht (A rfl)⟩
theorem JS.brk {M : MI} {brk cont pc : Nat} {nx : List Nat} {off : Int} (d : decode M.2.1 pc = .ok (.goto off, 3)) (ht : (pc : Int) + off = (brk : Int)) : JS M brk cont pc (pc + 3) nx brkS := by
  intro env h r env' h' e κ hκ
  cases e
  exact ⟨κ, hκ, kle_rf κ, fun G X C hE _ A _ _ => AWg.goto C d ht (A rfl)⟩
theorem JS.brk0 {M : MI} {cont pc : Nat} {nx : List Nat} : JS M pc cont pc pc nx brkS := by
  intro env h r env' h' e κ hκ
  cases e
  exact ⟨κ, hκ, kle_rf κ, fun G X C hE _ A _ _ => A rfl⟩
/-- a statement, then a continue into which its jumps are threaded -/
theorem JS.seqc {M : MI} {brk cont pc pc1 : Nat} {nx : List Nat} {a : St} {off : Int} (ha : JS M brk cont pc pc1 [cont] a) (d : decode M.2.1 pc1 = .ok (.goto off, 3)) (ht : (pc1 : Int) + off = (cont : Int)) : JS M brk cont pc (pc1 + 3) nx (seqS a contS) := by
  intro env h r env' h' e κ hκ
  obtain ⟨⟨r1, env1, h1⟩, e1, e⟩ := Option.bind_eq_some_iff.mp e
  obtain ⟨κ1, g1, l1, k1⟩ := ha env h r1 env1 h1 e1 κ hκ
  dsimp only at e
  by_cases h0 : r1 = .inl 0
  · rw [if_pos h0] at e
    subst h0
    cases e
    refine ⟨κ1, g1, l1, fun G X C hE _ _ A _ => k1 G X C hE (fun _ t ht' => ?_) (fun q => by cases q) (fun q => by cases q) (fun v q => by cases q)⟩
    rcases ht' with rfl | ht'
    · exact AWg.goto C d ht (A rfl)
    · rw [List.mem_singleton.mp ht']; exact A rfl
  · rw [if_neg h0] at e
    cases e
    exact ⟨κ1, g1, l1, fun G X C hE A B D E => k1 G X C hE (fun q => absurd q h0) B D E⟩
/-- a statement, then a break into which its jumps are threaded -/
theorem JS.seqb {M : MI} {brk cont pc pc1 : Nat} {nx : List Nat} {a : St} {off : Int} (ha : JS M brk cont pc pc1 [brk] a) (d : decode M.2.1 pc1 = .ok (.goto off, 3)) (ht : (pc1 : Int) + off = (brk : Int)) : JS M brk cont pc (pc1 + 3) nx (seqS a brkS) := by
  intro env h r env' h' e κ hκ
  obtain ⟨⟨r1, env1, h1⟩, e1, e⟩ := Option.bind_eq_some_iff.mp e
  obtain ⟨κ1, g1, l1, k1⟩ := ha env h r1 env1 h1 e1 κ hκ
  dsimp only at e
  by_cases h0 : r1 = .inl 0
  · rw [if_pos h0] at e
    subst h0
    cases e
    refine ⟨κ1, g1, l1, fun G X C hE _ A _ _ => k1 G X C hE (fun _ t ht' => ?_) (fun q => by cases q) (fun q => by cases q) (fun v q => by cases q)⟩
    rcases ht' with rfl | ht'
    · exact AWg.goto C d ht (A rfl)
    · rw [List.mem_singleton.mp ht']; exact A rfl
  · rw [if_neg h0] at e
    cases e
    exact ⟨κ1, g1, l1, fun G X C hE A B D E => k1 G X C hE (fun q => absurd q h0) B D E⟩
/-- the last break: nothing is left of it -/
theorem JS.seqb0 {M : MI} {cont pc pc1 : Nat} {nx : List Nat} {a : St} (ha : JS M pc1 cont pc pc1 [] a) : JS M pc1 cont pc pc1 nx (seqS a brkS) := by
  intro env h r env' h' e κ hκ
  obtain ⟨⟨r1, env1, h1⟩, e1, e⟩ := Option.bind_eq_some_iff.mp e
  obtain ⟨κ1, g1, l1, k1⟩ := ha env h r1 env1 h1 e1 κ hκ
  dsimp only at e
  by_cases h0 : r1 = .inl 0
  · rw [if_pos h0] at e
    subst h0
    cases e
    refine ⟨κ1, g1, l1, fun G X C hE _ A _ _ => k1 G X C hE (fun _ t ht' => ?_) (fun q => by cases q) (fun q => by cases q) (fun v q => by cases q)⟩
    rcases ht' with rfl | ht'
    · exact A rfl
    · cases ht'
  · rw [if_neg h0] at e
    cases e
    exact ⟨κ1, g1, l1, fun G X C hE A B D E => k1 G X C hE (fun q => absurd q h0) B D E⟩
theorem JS.iff {M : MI} {brk cont l pc pc1 pc2 : Nat} {nx : List Nat} {c : Ex Bool} {a : St} (hc : CJ M false 0 l pc pc1 [] c) (ha : JS M brk cont pc1 pc2 nx a) (hl : l = pc2 ∨ l ∈ nx) : JS M brk cont pc pc2 nx (ifS c a) := by
  intro env h r env' h' e κ hκ
  obtain ⟨⟨x, h1⟩, e1, e⟩ := Option.bind_eq_some_iff.mp e
  obtain ⟨κ1, g1, l1, k1⟩ := hc env h x h1 e1 κ hκ
  cases x with
  | true =>
    rw [if_pos rfl] at e
    obtain ⟨κ2, g2, l2, k2⟩ := ha env h1 r env' h' e κ1 g1
    refine ⟨κ2, g2, kle_tr l1 l2, fun G X C hE A B D E => k1 G X C (kle_tr l2 hE) [] rfl (fun q => by cases q) fun _ t ht => ?_⟩
    rcases ht with rfl | ht
    · exact k2 G X C hE A B D E
    · cases ht
  | false =>
    rw [if_neg (by simp)] at e
    cases e
    exact ⟨κ1, g1, l1, fun G X C hE A B D E => k1 G X C hE [] rfl (fun _ => A rfl l hl) (fun q => absurd rfl q)⟩
/-- if (..) continue; the condition's jumps may be threaded -/
theorem JS.ifc {M : MI} {brk cont l pc pc1 : Nat} {nx : List Nat} {c : Ex Bool} {off : Int} (hc : CJ M false 0 l pc pc1 [cont] c) (d : decode M.2.1 pc1 = .ok (.goto off, 3)) (ht : (pc1 : Int) + off = (cont : Int)) (hl : l = pc1 + 3 ∨ l ∈ nx) : JS M brk cont pc (pc1 + 3) nx (ifS c contS) := by
  intro env h r env' h' e κ hκ
  obtain ⟨⟨x, h1⟩, e1, e⟩ := Option.bind_eq_some_iff.mp e
  obtain ⟨κ1, g1, l1, k1⟩ := hc env h x h1 e1 κ hκ
  cases x with
  | true =>
    rw [if_pos rfl] at e
    cases e
    refine ⟨κ1, g1, l1, fun G X C hE A B D E => k1 G X C hE [] rfl (fun q => by cases q) fun _ t ht' => ?_⟩
    rcases ht' with rfl | ht'
    · exact AWg.goto C d ht (D rfl)
    · rw [List.mem_singleton.mp ht']; exact D rfl
  | false =>
    rw [if_neg (by simp)] at e
    cases e
    exact ⟨κ1, g1, l1, fun G X C hE A B D E => k1 G X C hE [] rfl (fun _ => A rfl l hl) (fun q => absurd rfl q)⟩
theorem JS.ife {M : MI} {brk cont l lend pc pc1 pc2 pc3 : Nat} {nx : List Nat} {c : Ex Bool} {a b : St} {off : Int} (hc : CJ M false 0 l pc pc1 [] c) (ha : JS M brk cont pc1 pc2 [lend] a) (d : decode M.2.1 pc2 = .ok (.goto off, 3)) (ht : (pc2 : Int) + off = (lend : Int)) (hb : JS M brk cont l pc3 nx b) (hl : lend = pc3 ∨ lend ∈ nx) : JS M brk cont pc pc3 nx (ifeS c a b) := by
  intro env h r env' h' e κ hκ
  obtain ⟨⟨x, h1⟩, e1, e⟩ := Option.bind_eq_some_iff.mp e
  obtain ⟨κ1, g1, l1, k1⟩ := hc env h x h1 e1 κ hκ
  cases x with
  | true =>
    rw [if_pos rfl] at e
    obtain ⟨κ2, g2, l2, k2⟩ := ha env h1 r env' h' e κ1 g1
    refine ⟨κ2, g2, kle_tr l1 l2, fun G X C hE A B D E => k1 G X C (kle_tr l2 hE) [] rfl (fun q => by cases q) fun _ t ht' => ?_⟩
    rcases ht' with rfl | ht'
    · refine k2 G X C hE (fun hr t ht2 => ?_) B D E
      have W1 := A hr lend hl
      rcases ht2 with rfl | ht2
      · exact AWg.goto C d ht W1
      · rw [List.mem_singleton.mp ht2]; exact W1
    · cases ht'
  | false =>
    rw [if_neg (by simp)] at e
    obtain ⟨κ2, g2, l2, k2⟩ := hb env h1 r env' h' e κ1 g1
    exact ⟨κ2, g2, kle_tr l1 l2, fun G X C hE A B D E => k1 G X C (kle_tr l2 hE) [] rfl (fun _ => k2 G X C hE A B D E) (fun q => absurd rfl q)⟩
/-- the first branch never goes on -/
theorem JS.ifd {M : MI} {brk cont l pc pc1 pc2 pc3 : Nat} {nx : List Nat} {c : Ex Bool} {a b : St} (hc : CJ M false 0 l pc pc1 [] c) (ha : JS M brk cont pc1 pc2 [] a) (hd : Dead a) (hb : JS M brk cont l pc3 nx b) : JS M brk cont pc pc3 nx (ifeS c a b) := by
  intro env h r env' h' e κ hκ
  obtain ⟨⟨x, h1⟩, e1, e⟩ := Option.bind_eq_some_iff.mp e
  obtain ⟨κ1, g1, l1, k1⟩ := hc env h x h1 e1 κ hκ
  cases x with
  | true =>
    rw [if_pos rfl] at e
    obtain ⟨κ2, g2, l2, k2⟩ := ha env h1 r env' h' e κ1 g1
    refine ⟨κ2, g2, kle_tr l1 l2, fun G X C hE A B D E => k1 G X C (kle_tr l2 hE) [] rfl (fun q => by cases q) fun _ t ht' => ?_⟩
    rcases ht' with rfl | ht'
    · exact k2 G X C hE (fun hr => absurd hr (hd _ _ _ e)) B D E
    · cases ht'
  | false =>
    rw [if_neg (by simp)] at e
    obtain ⟨κ2, g2, l2, k2⟩ := hb env h1 r env' h' e κ1 g1
    exact ⟨κ2, g2, kle_tr l1 l2, fun G X C hE A B D E => k1 G X C (kle_tr l2 hE) [] rfl (fun _ => k2 G X C hE A B D E) (fun q => absurd rfl q)⟩
theorem JS.whl {M : MI} {brk cont l lb pc pc1 pc2 pc3 : Nat} {nx : List Nat} {c : Ex Bool} {b : St} {off : Int} (hc : CJ M false 0 l pc pc1 [] c) (hb : JS M lb pc pc1 pc2 [pc] b) (d : decode M.2.1 pc2 = .ok (.goto off, 3)) (ht : (pc2 : Int) + off = (pc : Int)) (hl : l = pc3 ∨ l ∈ nx) (hlb : lb = pc3 ∨ lb ∈ nx) : ∀ n, JS M brk cont pc pc3 nx (whl c b n) := by
  intro n
  induction n with
  | zero => intro env h r env' h' e κ hκ; cases e
  | succ n ih =>
    intro env h r env' h' e κ hκ
    obtain ⟨⟨x, h1⟩, e1, e⟩ := Option.bind_eq_some_iff.mp e
    obtain ⟨κ1, g1, l1, k1⟩ := hc env h x h1 e1 κ hκ
    cases x with
    | false =>
      rw [if_neg (by simp)] at e
      cases e
      exact ⟨κ1, g1, l1, fun G X C hE A B D E => k1 G X C hE [] rfl (fun _ => A rfl l hl) (fun q => absurd rfl q)⟩
    | true =>
      rw [if_pos rfl] at e
      obtain ⟨⟨r2, env2, h2⟩, e2, e⟩ := Option.bind_eq_some_iff.mp e
      obtain ⟨κ2, g2, l2, k2⟩ := hb env h1 r2 env2 h2 e2 κ1 g1
      dsimp only at e
      by_cases hr : r2 = .inl 0 ∨ r2 = .inl 2
      · rw [if_pos hr] at e
        obtain ⟨κ3, g3, l3, k3⟩ := ih env2 h2 r env' h' e κ2 g2
        refine ⟨κ3, g3, kle_tr l1 (kle_tr l2 l3), fun G X C hE A B D E => k1 G X C (kle_tr l2 (kle_tr l3 hE)) [] rfl (fun q => by cases q) fun _ t ht' => ?_⟩
        rcases ht' with rfl | ht'
        · have W3 := k3 G X C hE A B D E
          refine k2 G X C (kle_tr l3 hE) (fun _ t ht2 => ?_) (fun q => ?_) (fun _ => W3) (fun v q => ?_)
          · rcases ht2 with rfl | ht2
            · exact AWg.goto C d ht W3
            · rw [List.mem_singleton.mp ht2]; exact W3
          · rcases hr with z | z <;> rw [z] at q <;> cases q
          · rcases hr with z | z <;> rw [z] at q <;> cases q
        · cases ht'
      · rw [if_neg hr] at e
        by_cases h1b : r2 = .inl 1
        · rw [if_pos h1b] at e
          subst h1b
          cases e
          refine ⟨κ2, g2, kle_tr l1 l2, fun G X C hE A B D E => k1 G X C (kle_tr l2 hE) [] rfl (fun q => by cases q) fun _ t ht' => ?_⟩
          rcases ht' with rfl | ht'
          · exact k2 G X C hE (fun q => by cases q) (fun _ => A rfl lb hlb) (fun q => by cases q) (fun v q => by cases q)
          · cases ht'
        · rw [if_neg h1b] at e
          cases e
          refine ⟨κ2, g2, kle_tr l1 l2, fun G X C hE A B D E => k1 G X C (kle_tr l2 hE) [] rfl (fun q => by cases q) fun _ t ht' => ?_⟩
          rcases ht' with rfl | ht'
          · exact k2 G X C hE (fun q => absurd (Or.inl q) hr) (fun q => absurd q h1b) (fun q => absurd (Or.inr q) hr) E
          · cases ht'
theorem JS.while {M : MI} {brk cont l lb pc pc1 pc2 pc3 : Nat} {nx : List Nat} {c : Ex Bool} {b : St} {off : Int} (hc : CJ M false 0 l pc pc1 [] c) (hb : JS M lb pc pc1 pc2 [pc] b) (d : decode M.2.1 pc2 = .ok (.goto off, 3)) (ht : (pc2 : Int) + off = (pc : Int)) (hl : l = pc3 ∨ l ∈ nx) (hlb : lb = pc3 ∨ lb ∈ nx) : JS M brk cont pc pc3 nx (whileS c b) := JS.whl hc hb d ht hl hlb 100000
/-- a body and the step behind it, to which a continue goes -/
theorem JS.forb {M : MI} {brk cont pc pc1 pc2 : Nat} {nx : List Nat} {b s : St} (hb : JS M brk pc1 pc pc1 [] b) (hs : JS M brk cont pc1 pc2 nx s) : JS M brk cont pc pc2 nx (forB b s) := by
  intro env h r env' h' e κ hκ
  obtain ⟨⟨r1, env1, h1⟩, e1, e⟩ := Option.bind_eq_some_iff.mp e
  obtain ⟨κ1, g1, l1, k1⟩ := hb env h r1 env1 h1 e1 κ hκ
  dsimp only at e
  by_cases h0 : r1 = .inl 0 ∨ r1 = .inl 2
  · rw [if_pos h0] at e
    obtain ⟨κ2, g2, l2, k2⟩ := hs env1 h1 r env' h' e κ1 g1
    refine ⟨κ2, g2, kle_tr l1 l2, fun G X C hE A B D E => ?_⟩
    have W2 := k2 G X C hE A B D E
    refine k1 G X C (kle_tr l2 hE) (fun _ t ht => ?_) (fun q => ?_) (fun _ => W2) (fun v q => ?_)
    · rcases ht with rfl | ht
      · exact W2
      · cases ht
    · rcases h0 with z | z <;> rw [z] at q <;> cases q
    · rcases h0 with z | z <;> rw [z] at q <;> cases q
  · rw [if_neg h0] at e
    cases e
    exact ⟨κ1, g1, l1, fun G X C hE A B D E => k1 G X C hE (fun q => absurd (Or.inl q) h0) B (fun q => absurd (Or.inr q) h0) E⟩
theorem cutE_at {env : List Slot} {n k : Nat} {v : Value} (h : (cutE env n)[k]? = some (.val v)) : env[k]? = some (.val v) := by
  unfold cutE at h
  rw [List.getElem?_append] at h
  split at h
  · rw [List.getElem?_take] at h
    split at h
    · exact h
    · cases h
  · rw [List.getElem?_replicate] at h
    split at h
    · cases h
    · cases h
theorem AWg.cut {G : GX} {X : CX} {nL pc n : Nat} {env : List Slot} {st : List Value} {h : AH} {κ : KP} (A : AWg G X nL pc (cutE env n) st h κ) : AWg G X nL pc env st h κ :=
  fun H locs ls ad bk cells slots hW hL hEn hV hS hn0 had hcc hsl => A H locs ls ad bk cells slots hW ⟨hL.1, hL.2.1, fun k v hk => hL.2.2 k v (cutE_at hk)⟩ (fun v hv => by
    obtain ⟨k, hk⟩ := List.getElem?_of_mem hv
    exact hEn v (List.mem_of_getElem? (cutE_at hk))) hV hS hn0 had hcc hsl
theorem JS.sc {M : MI} {brk cont pc pc1 n : Nat} {nx : List Nat} {b : St} (hb : JS M brk cont pc pc1 nx b) : JS M brk cont pc pc1 nx (scS n b) := by
  intro env h r env' h' e κ hκ
  obtain ⟨⟨r1, env1, h1⟩, e1, e⟩ := Option.bind_eq_some_iff.mp e
  cases e
  obtain ⟨κ1, g1, l1, k1⟩ := hb env h r1 env1 h1 e1 κ hκ
  exact ⟨κ1, g1, l1, fun G X C hE A B D E => k1 G X C hE (fun q t ht => (A q t ht).cut) (fun q => (B q).cut) (fun q => (D q).cut) E⟩
/-- a value that nobody takes -/
theorem JS.pop {α : Type} {inj : α → Value} {M : MI} {brk cont pc pc1 : Nat} {nx : List Nat} {f : Ex α} (hf : JX inj M 0 pc pc1 [] f) (hc : ∀ x, (inj x).category = 1) (d : decode M.2.1 pc1 = .ok (.pop, 1)) : JS M brk cont pc (pc1 + 1) nx (exS f) := by
  intro env h r env' h' e κ hκ
  obtain ⟨⟨x, h1⟩, e1, e⟩ := Option.bind_eq_some_iff.mp e
  cases e
  obtain ⟨κ1, g1, l1, k1⟩ := hf env h x _ e1 κ hκ
  refine ⟨κ1, g1, l1, fun G X C hE A _ _ _ => k1 G X C hE [] rfl fun t ht => ?_⟩
  rcases ht with rfl | ht
  · intro H locs ls ad bk cells slots hW hL hEn hV hS hn0 had hcc hsl
    exact lv_pop C.1 C.2.1 d (by rw [cvv_cat]; exact hc x) (A rfl _ (Or.inl rfl) H locs ls ad bk cells slots hW hL hEn (fun v hv => by cases hv) hS hn0 had hcc hsl)
  · cases ht
theorem JS.retI {M : MI} {brk cont pc pc1 : Nat} {nx : List Nat} {f : Ex Int32} (hf : JX Value.int M 0 pc pc1 [] f) (d : decode M.2.1 pc1 = .ok (.ireturn, 1)) : JS M brk cont pc (pc1 + 1) nx (retI f) := by
  intro env h r env' h' e κ hκ
  obtain ⟨⟨x, h1⟩, e1, e⟩ := Option.bind_eq_some_iff.mp e
  cases e
  obtain ⟨κ1, g1, l1, k1⟩ := hf env h x _ e1 κ hκ
  refine ⟨κ1, g1, l1, fun G X C hE _ _ _ A => k1 G X C hE [] rfl fun t ht => ?_⟩
  rcases ht with rfl | ht
  · exact A _ rfl _ env d
  · cases ht
theorem JS.retZ {M : MI} {brk cont pc pc1 : Nat} {nx : List Nat} {f : Ex Int32} (hf : JX Value.int M 0 pc pc1 [] f) (d : decode M.2.1 pc1 = .ok (.ireturn, 1)) : JS M brk cont pc (pc1 + 1) nx (retZ f) := by
  intro env h r env' h' e κ hκ
  obtain ⟨⟨x, h1⟩, e1, e⟩ := Option.bind_eq_some_iff.mp e
  dsimp only at e
  split at e
  · cases e
    obtain ⟨κ1, g1, l1, k1⟩ := hf env h x _ e1 κ hκ
    refine ⟨κ1, g1, l1, fun G X C hE _ _ _ A => k1 G X C hE [] rfl fun t ht => ?_⟩
    rcases ht with rfl | ht
    · exact A _ rfl _ env d
    · cases ht
  · cases e
theorem JS.retL {M : MI} {brk cont pc pc1 : Nat} {nx : List Nat} {f : Ex Int64} (hf : JX Value.long M 0 pc pc1 [] f) (d : decode M.2.1 pc1 = .ok (.lreturn, 1)) : JS M brk cont pc (pc1 + 1) nx (retL f) := by
  intro env h r env' h' e κ hκ
  obtain ⟨⟨x, h1⟩, e1, e⟩ := Option.bind_eq_some_iff.mp e
  cases e
  obtain ⟨κ1, g1, l1, k1⟩ := hf env h x _ e1 κ hκ
  refine ⟨κ1, g1, l1, fun G X C hE _ _ _ A => k1 G X C hE [] rfl fun t ht => ?_⟩
  rcases ht with rfl | ht
  · exact A _ rfl _ env d
  · cases ht
theorem JS.retR {M : MI} {brk cont pc pc1 : Nat} {nx : List Nat} {f : Ex (Option Nat)} (hf : JX va_rf M 0 pc pc1 [] f) (d : decode M.2.1 pc1 = .ok (.areturn, 1)) : JS M brk cont pc (pc1 + 1) nx (retR f) := by
  intro env h r env' h' e κ hκ
  obtain ⟨⟨x, h1⟩, e1, e⟩ := Option.bind_eq_some_iff.mp e
  cases e
  obtain ⟨κ1, g1, l1, k1⟩ := hf env h x _ e1 κ hκ
  refine ⟨κ1, g1, l1, fun G X C hE _ _ _ A => k1 G X C hE [] rfl fun t ht => ?_⟩
  rcases ht with rfl | ht
  · exact A _ rfl _ env (by cases x <;> exact d)
  · cases ht
theorem JS.retV {M : MI} {brk cont pc : Nat} {nx : List Nat} (d : decode M.2.1 pc = .ok (.return_, 1)) : JS M brk cont pc (pc + 1) nx retV := by
  intro env h r env' h' e κ hκ
  cases e
  exact ⟨κ, hκ, kle_rf κ, fun G X C hE _ _ _ A => A none rfl _ env d⟩
theorem dead_cont : Dead contS := fun env h r e => by cases e; exact fun q => by cases q
theorem dead_brk : Dead brkS := fun env h r e => by cases e; exact fun q => by cases q
theorem dead_retV : Dead retV := fun env h r e => by cases e; exact fun q => by cases q
theorem dead_retI {f : Ex Int32} : Dead (retI f) := fun env h r e => by
  obtain ⟨x, -, e⟩ := Option.bind_eq_some_iff.mp e
  cases e; exact fun q => by cases q
theorem dead_retL {f : Ex Int64} : Dead (retL f) := fun env h r e => by
  obtain ⟨x, -, e⟩ := Option.bind_eq_some_iff.mp e
  cases e; exact fun q => by cases q
theorem dead_retR {f : Ex (Option Nat)} : Dead (retR f) := fun env h r e => by
  obtain ⟨x, -, e⟩ := Option.bind_eq_some_iff.mp e
  cases e; exact fun q => by cases q
theorem dead_retZ {f : Ex Int32} : Dead (retZ f) := fun env h r e => by
  obtain ⟨x, -, e⟩ := Option.bind_eq_some_iff.mp e
  split at e
  · cases e; exact fun q => by cases q
  · cases e
theorem dead_seq {a b : St} (hb : Dead b) : Dead (seqS a b) := fun env h r e => by
  obtain ⟨x, -, e⟩ := Option.bind_eq_some_iff.mp e
  split at e
  · exact hb _ _ _ e
  · cases e; assumption
theorem dead_ife {c : Ex Bool} {a b : St} (ha : Dead a) (hb : Dead b) : Dead (ifeS c a b) := fun env h r e => by
  obtain ⟨x, -, e⟩ := Option.bind_eq_some_iff.mp e
  split at e
  · exact ha _ _ _ e
  · exact hb _ _ _ e
theorem dead_sc {n : Nat} {a : St} (ha : Dead a) : Dead (scS n a) := fun env h r e => by
  obtain ⟨x, e1, e⟩ := Option.bind_eq_some_iff.mp e
  cases e
  exact fun q => ha _ _ _ e1 q
