/-! ===== constants, locals, arithmetic ===== -/
def ciI (v : Int32) : Ex Int32 := fun _ h => some (v, h)
def clL (v : Int64) : Ex Int64 := fun _ h => some (v, h)
def lvI (k : Nat) : Ex Int32 := fun env h => match env[k]? with
  | some (.val (.int x)) => some (x, h)
  | _ => none
def lvL (k : Nat) : Ex Int64 := fun env h => match env[k]? with
  | some (.val (.long x)) => some (x, h)
  | _ => none
def lvR (k : Nat) : Ex (Option Nat) := fun env h => match env[k]? with
  | some (.val (.ref a)) => some (some a, h)
  | _ => none
def binx {α β γ : Type} (op : α → β → Option γ) (f : Ex α) (g : Ex β) : Ex γ := fun env h => (f env h).bind fun r => (g env r.2).bind fun r2 => (op r.1 r2.1).bind fun z => some (z, r2.2)
def unax {α β : Type} (op : α → Option β) (f : Ex α) : Ex β := fun env h => (f env h).bind fun r => (op r.1).bind fun z => some (z, r.2)
/-- a pure expression at its end: one instruction that takes nothing and changes nothing but the stack -/
theorem JX.leaf {α : Type} {inj : α → Value} {M : MI} {sh pc pc' : Nat} {nx : List Nat} {f : Ex α}
    (hf : ∀ env h x h', f env h = some (x, h') → h' = h ∧ ∀ G X, CCx M G X → ∀ H locs ls ad bk cells slots (st : List Value) κ, Wd G h κ ad bk H → Lcs ls M.2.2.1 env ad → (∀ v, Slot.val v ∈ env → vok (hN h) v) → vok (hN h) (inj x) ∧ (wX X H locs cells slots (F0 X.2.1.2.1 pc' ls (cvv ad (inj x) :: st)) → wX X H locs cells slots (F0 X.2.1.2.1 pc ls st))) : JX inj M sh pc pc' nx f := by
  intro env h x h' e κ hκ
  obtain ⟨rfl, k⟩ := hf env h x h' e
  refine ⟨κ, hκ, kle_rf κ, fun G X C _ st _ A H locs ls ad bk cells slots hW hL hE hV hS hn0 had hc hs => ?_⟩
  obtain ⟨k1, k2⟩ := k G X C H locs ls ad bk cells slots (st.map (cvv ad)) κ.1 hW hL hE
  exact k2 (A pc' (Or.inl rfl) H locs ls ad bk cells slots hW hL hE (fun v hv => (List.mem_cons.mp hv).elim (fun q => q ▸ k1) (hV v)) hS hn0 had hc hs)
theorem vok_int {n : Nat} {x : Int32} : vok n (.int x) := fun _ h => by cases h
theorem vok_long {n : Nat} {x : Int64} : vok n (.long x) := fun _ h => by cases h
theorem JX.ic {M : MI} {sh pc : Nat} {nx : List Nat} {n : Int} {v : Int32} (hv : Int32.ofInt n = v) (d : decode M.2.1 pc = .ok (.iconst n, 1)) : JX Value.int M sh pc (pc + 1) nx (ciI v) :=
  JX.leaf fun env h x h' e => by
    cases e
    exact ⟨rfl, fun G X C H locs ls ad bk cells slots st κ hW hL hE => ⟨vok_int, fun k => lv_iconst C.1 C.2.1 d hv k⟩⟩
theorem JX.bp {M : MI} {sh pc : Nat} {nx : List Nat} {n : Int} {v : Int32} (hv : (Int8.ofInt n).toInt32 = v) (d : decode M.2.1 pc = .ok (.bipush n, 2)) : JX Value.int M sh pc (pc + 2) nx (ciI v) :=
  JX.leaf fun env h x h' e => by
    cases e
    exact ⟨rfl, fun G X C H locs ls ad bk cells slots st κ hW hL hE => ⟨vok_int, fun k => lv_bipush C.1 C.2.1 d hv k⟩⟩
theorem JX.sp {M : MI} {sh pc : Nat} {nx : List Nat} {n : Int} {v : Int32} (hv : (Int16.ofInt n).toInt32 = v) (d : decode M.2.1 pc = .ok (.sipush n, 3)) : JX Value.int M sh pc (pc + 3) nx (ciI v) :=
  JX.leaf fun env h x h' e => by
    cases e
    exact ⟨rfl, fun G X C H locs ls ad bk cells slots st κ hW hL hE => ⟨vok_int, fun k => lv_sipush C.1 C.2.1 d hv k⟩⟩
theorem JX.ldc {M : MI} {sh pc i : Nat} {nx : List Nat} {v : Int32} (w : Cond.constant M.1 i v ∈ GW) (d : decode M.2.1 pc = .ok (.ldc i, 2)) : JX Value.int M sh pc (pc + 2) nx (ciI v) :=
  JX.leaf fun env h x h' e => by
    cases e
    exact ⟨rfl, fun G X C H locs ls ad bk cells slots st κ hW hL hE => ⟨vok_int, fun k => lv_ldc C.1 C.2.1 C.2.2.2.1 (C.2.2.2.2.1 _ w) d k⟩⟩
theorem JX.lc {M : MI} {sh pc : Nat} {nx : List Nat} {n : Fin 2} {v : Int64} (hv : Int64.ofNat n.val = v) (d : decode M.2.1 pc = .ok (.lconst n, 1)) : JX Value.long M sh pc (pc + 1) nx (clL v) :=
  JX.leaf fun env h x h' e => by
    cases e
    exact ⟨rfl, fun G X C H locs ls ad bk cells slots st κ hW hL hE => ⟨vok_long, fun k => lv_lconst C.1 C.2.1 d hv k⟩⟩
theorem JX.ld2 {M : MI} {sh pc i : Nat} {nx : List Nat} {v : Int64} (w : Cond.constantLong M.1 i v ∈ GW) (d : decode M.2.1 pc = .ok (.ldc2_w i, 3)) : JX Value.long M sh pc (pc + 3) nx (clL v) :=
  JX.leaf fun env h x h' e => by
    cases e
    exact ⟨rfl, fun G X C H locs ls ad bk cells slots st κ hW hL hE => ⟨vok_long, fun k => lv_ldc2 C.1 C.2.1 C.2.2.2.1 (C.2.2.2.2.1 _ w) d k⟩⟩
theorem lvI_some {k : Nat} {env : List Slot} {h : AH} {x : Int32} {h' : AH} (e : lvI k env h = some (x, h')) : h' = h ∧ env[k]? = some (.val (.int x)) := by
  unfold lvI at e
  split at e
  · cases e; exact ⟨rfl, by assumption⟩
  · cases e
theorem lvL_some {k : Nat} {env : List Slot} {h : AH} {x : Int64} {h' : AH} (e : lvL k env h = some (x, h')) : h' = h ∧ env[k]? = some (.val (.long x)) := by
  unfold lvL at e
  split at e
  · cases e; exact ⟨rfl, by assumption⟩
  · cases e
theorem lvR_some {k : Nat} {env : List Slot} {h : AH} {x : Option Nat} {h' : AH} (e : lvR k env h = some (x, h')) : h' = h ∧ ∃ a, x = some a ∧ env[k]? = some (.val (.ref a)) := by
  unfold lvR at e
  split at e
  · cases e; exact ⟨rfl, _, rfl, by assumption⟩
  · cases e
theorem JX.il {M : MI} {sh pc i : Nat} {nx : List Nat} {k : Fin 4} (hk : (k : Nat) = i) (d : decode M.2.1 pc = .ok (.iload_n k, 1)) : JX Value.int M sh pc (pc + 1) nx (lvI i) :=
  JX.leaf fun env h x h' e => by
    obtain ⟨rfl, e2⟩ := lvI_some e
    exact ⟨rfl, fun G X C H locs ls ad bk cells slots st κ hW hL hE => ⟨vok_int, fun z => lv_iload_n C.1 C.2.1 d hk (hL.2.2 _ _ e2) z⟩⟩
theorem JX.il2 {M : MI} {sh pc i : Nat} {nx : List Nat} (d : decode M.2.1 pc = .ok (.iload i, 2)) : JX Value.int M sh pc (pc + 2) nx (lvI i) :=
  JX.leaf fun env h x h' e => by
    obtain ⟨rfl, e2⟩ := lvI_some e
    exact ⟨rfl, fun G X C H locs ls ad bk cells slots st κ hW hL hE => ⟨vok_int, fun z => lv_iload C.1 C.2.1 d (hL.2.2 _ _ e2) z⟩⟩
theorem JX.ll {M : MI} {sh pc i : Nat} {nx : List Nat} {k : Fin 4} (hk : (k : Nat) = i) (d : decode M.2.1 pc = .ok (.lload_n k, 1)) : JX Value.long M sh pc (pc + 1) nx (lvL i) :=
  JX.leaf fun env h x h' e => by
    obtain ⟨rfl, e2⟩ := lvL_some e
    exact ⟨rfl, fun G X C H locs ls ad bk cells slots st κ hW hL hE => ⟨vok_long, fun z => lv_lload_n C.1 C.2.1 d hk (hL.2.2 _ _ e2) z⟩⟩
theorem JX.ll2 {M : MI} {sh pc i : Nat} {nx : List Nat} (d : decode M.2.1 pc = .ok (.lload i, 2)) : JX Value.long M sh pc (pc + 2) nx (lvL i) :=
  JX.leaf fun env h x h' e => by
    obtain ⟨rfl, e2⟩ := lvL_some e
    exact ⟨rfl, fun G X C H locs ls ad bk cells slots st κ hW hL hE => ⟨vok_long, fun z => lv_lload C.1 C.2.1 d (hL.2.2 _ _ e2) z⟩⟩
theorem JX.al {M : MI} {sh pc i : Nat} {nx : List Nat} {k : Fin 4} (hk : (k : Nat) = i) (d : decode M.2.1 pc = .ok (.aload_n k, 1)) : JX va_rf M sh pc (pc + 1) nx (lvR i) :=
  JX.leaf fun env h x h' e => by
    obtain ⟨rfl, a, rfl, e2⟩ := lvR_some e
    exact ⟨rfl, fun G X C H locs ls ad bk cells slots st κ hW hL hE => ⟨hE _ (List.mem_of_getElem? e2), fun z => lv_aload_n C.1 C.2.1 d hk (hL.2.2 _ _ e2) z⟩⟩
theorem JX.al2 {M : MI} {sh pc i : Nat} {nx : List Nat} (d : decode M.2.1 pc = .ok (.aload i, 2)) : JX va_rf M sh pc (pc + 2) nx (lvR i) :=
  JX.leaf fun env h x h' e => by
    obtain ⟨rfl, a, rfl, e2⟩ := lvR_some e
    exact ⟨rfl, fun G X C H locs ls ad bk cells slots st κ hW hL hE => ⟨hE _ (List.mem_of_getElem? e2), fun z => lv_aload C.1 C.2.1 d (hL.2.2 _ _ e2) z⟩⟩
/-! ===== by program: mk03.py ===== -/
theorem wds_cons (v : Value) (st : List Value) : wds (v :: st) = v.category + wds st := by simp [wds]
theorem bin_some {α β γ : Type} {op : α → β → Option γ} {f : Ex α} {g : Ex β} {env : List Slot} {h h' : AH} {z : γ} (e : binx op f g env h = some (z, h')) : ∃ x h1 y, f env h = some (x, h1) ∧ g env h1 = some (y, h') ∧ op x y = some z := by
  unfold binx at e
  obtain ⟨⟨x, h1⟩, e1, e⟩ := Option.bind_eq_some_iff.mp e
  obtain ⟨⟨y, h2⟩, e2, e⟩ := Option.bind_eq_some_iff.mp e
  obtain ⟨z', e3, e⟩ := Option.bind_eq_some_iff.mp e
  cases e
  exact ⟨x, h1, y, e1, e2, e3⟩
theorem una_some {α β : Type} {op : α → Option β} {f : Ex α} {env : List Slot} {h h' : AH} {z : β} (e : unax op f env h = some (z, h')) : ∃ x, f env h = some (x, h') ∧ op x = some z := by
  unfold unax at e
  obtain ⟨⟨x, h1⟩, e1, e⟩ := Option.bind_eq_some_iff.mp e
  obtain ⟨z', e3, e⟩ := Option.bind_eq_some_iff.mp e
  cases e
  exact ⟨x, e1, e3⟩
theorem JX.bin {α β γ : Type} {ia : α → Value} {ib : β → Value} {ig : γ → Value} {op : α → β → Option γ} {M : MI} {sh sh1 pc pc1 pc2 pc3 : Nat} {nx : List Nat} {f : Ex α} {g : Ex β} (hf : JX ia M sh pc pc1 [] f) (hg : JX ib M sh1 pc1 pc2 [] g) (hs : ∀ x, (ia x).category + sh = sh1)
    (row : ∀ x y z, op x y = some z → (∀ n, vok n (ig z)) ∧ ∀ G X, CCx M G X → ∀ H locs ls ad cells slots (st : List Value), wX X H locs cells slots (F0 X.2.1.2.1 pc3 ls (cvv ad (ig z) :: st)) → wX X H locs cells slots (F0 X.2.1.2.1 pc2 ls (cvv ad (ib y) :: cvv ad (ia x) :: st))) : JX ig M sh pc pc3 nx (binx op f g) := by
  intro env h z h' e κ hκ
  obtain ⟨x, h1, y, e1, e2, e3⟩ := bin_some e
  obtain ⟨κ1, g1, l1, k1⟩ := hf env h x h1 e1 κ hκ
  obtain ⟨κ2, g2, l2, k2⟩ := hg env h1 y h' e2 κ1 g1
  obtain ⟨r1, r2⟩ := row x y z e3
  refine ⟨κ2, g2, kle_tr l1 l2, fun G X C hE st hst A => k1 G X C (kle_tr l2 hE) st hst fun t ht => ?_⟩
  rcases ht with rfl | ht
  · refine k2 G X C hE (ia x :: st) (by rw [wds_cons, hst]; exact hs x) fun t ht => ?_
    rcases ht with rfl | ht
    · intro H locs ls ad bk cells slots hW hL hEn hV hS hn0 had hc hsl
      exact r2 G X C H locs ls ad cells slots (st.map (cvv ad)) (A pc3 (Or.inl rfl) H locs ls ad bk cells slots hW hL hEn (fun v hv => (List.mem_cons.mp hv).elim (fun q => q ▸ r1 _) (fun q => hV v (List.mem_cons_of_mem _ (List.mem_cons_of_mem _ q)))) hS hn0 had hc hsl)
    · cases ht
  · cases ht
theorem JX.una {α γ : Type} {ia : α → Value} {ig : γ → Value} {op : α → Option γ} {M : MI} {sh pc pc1 pc3 : Nat} {nx : List Nat} {f : Ex α} (hf : JX ia M sh pc pc1 [] f)
    (row : ∀ x z, op x = some z → (∀ n, vok n (ig z)) ∧ ∀ G X, CCx M G X → ∀ H locs ls ad cells slots (st : List Value), wX X H locs cells slots (F0 X.2.1.2.1 pc3 ls (cvv ad (ig z) :: st)) → wX X H locs cells slots (F0 X.2.1.2.1 pc1 ls (cvv ad (ia x) :: st))) : JX ig M sh pc pc3 nx (unax op f) := by
  intro env h z h' e κ hκ
  obtain ⟨x, e1, e3⟩ := una_some e
  obtain ⟨κ1, g1, l1, k1⟩ := hf env h x h' e1 κ hκ
  obtain ⟨r1, r2⟩ := row x z e3
  refine ⟨κ1, g1, l1, fun G X C hE st hst A => k1 G X C hE st hst fun t ht => ?_⟩
  rcases ht with rfl | ht
  · intro H locs ls ad bk cells slots hW hL hEn hV hS hn0 had hc hsl
    exact r2 G X C H locs ls ad cells slots (st.map (cvv ad)) (A pc3 (Or.inl rfl) H locs ls ad bk cells slots hW hL hEn (fun v hv => (List.mem_cons.mp hv).elim (fun q => q ▸ r1 _) (fun q => hV v (List.mem_cons_of_mem _ q))) hS hn0 had hc hsl)
  · cases ht
def addI (f g : Ex Int32) : Ex Int32 := binx (fun x y : Int32 => some (x + y)) f g
theorem JX.iadd {M : MI} {sh pc pc1 pc2 : Nat} {nx : List Nat} {f g : Ex Int32} (hf : JX Value.int M sh pc pc1 [] f) (hg : JX Value.int M (1 + sh) pc1 pc2 [] g) (d : decode M.2.1 pc2 = .ok (.iadd, 1)) : JX Value.int M sh pc (pc2 + 1) nx (addI f g) :=
  JX.bin hf hg (fun _ => rfl) fun x y z e => by
    cases e
    exact ⟨fun _ => vok_int, fun G X C H locs ls ad cells slots st k => lv_iadd C.1 C.2.1 d k⟩
def subI (f g : Ex Int32) : Ex Int32 := binx (fun x y : Int32 => some (x - y)) f g
theorem JX.isub {M : MI} {sh pc pc1 pc2 : Nat} {nx : List Nat} {f g : Ex Int32} (hf : JX Value.int M sh pc pc1 [] f) (hg : JX Value.int M (1 + sh) pc1 pc2 [] g) (d : decode M.2.1 pc2 = .ok (.isub, 1)) : JX Value.int M sh pc (pc2 + 1) nx (subI f g) :=
  JX.bin hf hg (fun _ => rfl) fun x y z e => by
    cases e
    exact ⟨fun _ => vok_int, fun G X C H locs ls ad cells slots st k => lv_isub C.1 C.2.1 d k⟩
def mulI (f g : Ex Int32) : Ex Int32 := binx (fun x y : Int32 => some (x * y)) f g
theorem JX.imul {M : MI} {sh pc pc1 pc2 : Nat} {nx : List Nat} {f g : Ex Int32} (hf : JX Value.int M sh pc pc1 [] f) (hg : JX Value.int M (1 + sh) pc1 pc2 [] g) (d : decode M.2.1 pc2 = .ok (.imul, 1)) : JX Value.int M sh pc (pc2 + 1) nx (mulI f g) :=
  JX.bin hf hg (fun _ => rfl) fun x y z e => by
    cases e
    exact ⟨fun _ => vok_int, fun G X C H locs ls ad cells slots st k => lv_imul C.1 C.2.1 d k⟩
def andI (f g : Ex Int32) : Ex Int32 := binx (fun x y : Int32 => some (x &&& y)) f g
theorem JX.iand {M : MI} {sh pc pc1 pc2 : Nat} {nx : List Nat} {f g : Ex Int32} (hf : JX Value.int M sh pc pc1 [] f) (hg : JX Value.int M (1 + sh) pc1 pc2 [] g) (d : decode M.2.1 pc2 = .ok (.iand, 1)) : JX Value.int M sh pc (pc2 + 1) nx (andI f g) :=
  JX.bin hf hg (fun _ => rfl) fun x y z e => by
    cases e
    exact ⟨fun _ => vok_int, fun G X C H locs ls ad cells slots st k => lv_iand C.1 C.2.1 d k⟩
def orI (f g : Ex Int32) : Ex Int32 := binx (fun x y : Int32 => some (x ||| y)) f g
theorem JX.ior {M : MI} {sh pc pc1 pc2 : Nat} {nx : List Nat} {f g : Ex Int32} (hf : JX Value.int M sh pc pc1 [] f) (hg : JX Value.int M (1 + sh) pc1 pc2 [] g) (d : decode M.2.1 pc2 = .ok (.ior, 1)) : JX Value.int M sh pc (pc2 + 1) nx (orI f g) :=
  JX.bin hf hg (fun _ => rfl) fun x y z e => by
    cases e
    exact ⟨fun _ => vok_int, fun G X C H locs ls ad cells slots st k => lv_ior C.1 C.2.1 d k⟩
def xorI (f g : Ex Int32) : Ex Int32 := binx (fun x y : Int32 => some (x ^^^ y)) f g
theorem JX.ixor {M : MI} {sh pc pc1 pc2 : Nat} {nx : List Nat} {f g : Ex Int32} (hf : JX Value.int M sh pc pc1 [] f) (hg : JX Value.int M (1 + sh) pc1 pc2 [] g) (d : decode M.2.1 pc2 = .ok (.ixor, 1)) : JX Value.int M sh pc (pc2 + 1) nx (xorI f g) :=
  JX.bin hf hg (fun _ => rfl) fun x y z e => by
    cases e
    exact ⟨fun _ => vok_int, fun G X C H locs ls ad cells slots st k => lv_ixor C.1 C.2.1 d k⟩
def shlI (f g : Ex Int32) : Ex Int32 := binx (fun x y : Int32 => some (x <<< (y &&& 31))) f g
theorem JX.ishl {M : MI} {sh pc pc1 pc2 : Nat} {nx : List Nat} {f g : Ex Int32} (hf : JX Value.int M sh pc pc1 [] f) (hg : JX Value.int M (1 + sh) pc1 pc2 [] g) (d : decode M.2.1 pc2 = .ok (.ishl, 1)) : JX Value.int M sh pc (pc2 + 1) nx (shlI f g) :=
  JX.bin hf hg (fun _ => rfl) fun x y z e => by
    cases e
    exact ⟨fun _ => vok_int, fun G X C H locs ls ad cells slots st k => lv_ishl C.1 C.2.1 d k⟩
def shrI (f g : Ex Int32) : Ex Int32 := binx (fun x y : Int32 => some (x >>> (y &&& 31))) f g
theorem JX.ishr {M : MI} {sh pc pc1 pc2 : Nat} {nx : List Nat} {f g : Ex Int32} (hf : JX Value.int M sh pc pc1 [] f) (hg : JX Value.int M (1 + sh) pc1 pc2 [] g) (d : decode M.2.1 pc2 = .ok (.ishr, 1)) : JX Value.int M sh pc (pc2 + 1) nx (shrI f g) :=
  JX.bin hf hg (fun _ => rfl) fun x y z e => by
    cases e
    exact ⟨fun _ => vok_int, fun G X C H locs ls ad cells slots st k => lv_ishr C.1 C.2.1 d k⟩
def ushrI (f g : Ex Int32) : Ex Int32 := binx (fun x y : Int32 => some ((x.toUInt32 >>> (y.toUInt32 &&& Int32.toUInt32 31)).toInt32)) f g
theorem JX.iushr {M : MI} {sh pc pc1 pc2 : Nat} {nx : List Nat} {f g : Ex Int32} (hf : JX Value.int M sh pc pc1 [] f) (hg : JX Value.int M (1 + sh) pc1 pc2 [] g) (d : decode M.2.1 pc2 = .ok (.iushr, 1)) : JX Value.int M sh pc (pc2 + 1) nx (ushrI f g) :=
  JX.bin hf hg (fun _ => rfl) fun x y z e => by
    cases e
    exact ⟨fun _ => vok_int, fun G X C H locs ls ad cells slots st k => lv_iushr C.1 C.2.1 d rfl k⟩
def divI (f g : Ex Int32) : Ex Int32 := binx (fun x y : Int32 => if y = 0 then none else some (x / y)) f g
theorem JX.idiv {M : MI} {sh pc pc1 pc2 : Nat} {nx : List Nat} {f g : Ex Int32} (hf : JX Value.int M sh pc pc1 [] f) (hg : JX Value.int M (1 + sh) pc1 pc2 [] g) (d : decode M.2.1 pc2 = .ok (.idiv, 1)) : JX Value.int M sh pc (pc2 + 1) nx (divI f g) :=
  JX.bin hf hg (fun _ => rfl) fun x y z e => by
    by_cases hy : y = 0
    · simp [hy] at e
    · simp only [hy, if_false] at e
      cases e
      exact ⟨fun _ => vok_int, fun G X C H locs ls ad cells slots st k => lv_idiv C.1 C.2.1 d hy k⟩
def remI (f g : Ex Int32) : Ex Int32 := binx (fun x y : Int32 => if y = 0 then none else some (x - x / y * y)) f g
theorem JX.irem {M : MI} {sh pc pc1 pc2 : Nat} {nx : List Nat} {f g : Ex Int32} (hf : JX Value.int M sh pc pc1 [] f) (hg : JX Value.int M (1 + sh) pc1 pc2 [] g) (d : decode M.2.1 pc2 = .ok (.irem, 1)) : JX Value.int M sh pc (pc2 + 1) nx (remI f g) :=
  JX.bin hf hg (fun _ => rfl) fun x y z e => by
    by_cases hy : y = 0
    · simp [hy] at e
    · simp only [hy, if_false] at e
      cases e
      exact ⟨fun _ => vok_int, fun G X C H locs ls ad cells slots st k => lv_irem C.1 C.2.1 d hy k⟩
def addL (f g : Ex Int64) : Ex Int64 := binx (fun x y : Int64 => some (x + y)) f g
theorem JX.ladd {M : MI} {sh pc pc1 pc2 : Nat} {nx : List Nat} {f g : Ex Int64} (hf : JX Value.long M sh pc pc1 [] f) (hg : JX Value.long M (2 + sh) pc1 pc2 [] g) (d : decode M.2.1 pc2 = .ok (.ladd, 1)) : JX Value.long M sh pc (pc2 + 1) nx (addL f g) :=
  JX.bin hf hg (fun _ => rfl) fun x y z e => by
    cases e
    exact ⟨fun _ => vok_long, fun G X C H locs ls ad cells slots st k => lv_ladd C.1 C.2.1 d k⟩
def subL (f g : Ex Int64) : Ex Int64 := binx (fun x y : Int64 => some (x - y)) f g
theorem JX.lsub {M : MI} {sh pc pc1 pc2 : Nat} {nx : List Nat} {f g : Ex Int64} (hf : JX Value.long M sh pc pc1 [] f) (hg : JX Value.long M (2 + sh) pc1 pc2 [] g) (d : decode M.2.1 pc2 = .ok (.lsub, 1)) : JX Value.long M sh pc (pc2 + 1) nx (subL f g) :=
  JX.bin hf hg (fun _ => rfl) fun x y z e => by
    cases e
    exact ⟨fun _ => vok_long, fun G X C H locs ls ad cells slots st k => lv_lsub C.1 C.2.1 d k⟩
def mulL (f g : Ex Int64) : Ex Int64 := binx (fun x y : Int64 => some (x * y)) f g
theorem JX.lmul {M : MI} {sh pc pc1 pc2 : Nat} {nx : List Nat} {f g : Ex Int64} (hf : JX Value.long M sh pc pc1 [] f) (hg : JX Value.long M (2 + sh) pc1 pc2 [] g) (d : decode M.2.1 pc2 = .ok (.lmul, 1)) : JX Value.long M sh pc (pc2 + 1) nx (mulL f g) :=
  JX.bin hf hg (fun _ => rfl) fun x y z e => by
    cases e
    exact ⟨fun _ => vok_long, fun G X C H locs ls ad cells slots st k => lv_lmul C.1 C.2.1 d k⟩
def andL (f g : Ex Int64) : Ex Int64 := binx (fun x y : Int64 => some (x &&& y)) f g
theorem JX.land {M : MI} {sh pc pc1 pc2 : Nat} {nx : List Nat} {f g : Ex Int64} (hf : JX Value.long M sh pc pc1 [] f) (hg : JX Value.long M (2 + sh) pc1 pc2 [] g) (d : decode M.2.1 pc2 = .ok (.land, 1)) : JX Value.long M sh pc (pc2 + 1) nx (andL f g) :=
  JX.bin hf hg (fun _ => rfl) fun x y z e => by
    cases e
    exact ⟨fun _ => vok_long, fun G X C H locs ls ad cells slots st k => lv_land C.1 C.2.1 d k⟩
def orL (f g : Ex Int64) : Ex Int64 := binx (fun x y : Int64 => some (x ||| y)) f g
theorem JX.lor {M : MI} {sh pc pc1 pc2 : Nat} {nx : List Nat} {f g : Ex Int64} (hf : JX Value.long M sh pc pc1 [] f) (hg : JX Value.long M (2 + sh) pc1 pc2 [] g) (d : decode M.2.1 pc2 = .ok (.lor, 1)) : JX Value.long M sh pc (pc2 + 1) nx (orL f g) :=
  JX.bin hf hg (fun _ => rfl) fun x y z e => by
    cases e
    exact ⟨fun _ => vok_long, fun G X C H locs ls ad cells slots st k => lv_lor C.1 C.2.1 d k⟩
def divL (f g : Ex Int64) : Ex Int64 := binx (fun x y : Int64 => if y = 0 then none else some (x / y)) f g
theorem JX.ldiv {M : MI} {sh pc pc1 pc2 : Nat} {nx : List Nat} {f g : Ex Int64} (hf : JX Value.long M sh pc pc1 [] f) (hg : JX Value.long M (2 + sh) pc1 pc2 [] g) (d : decode M.2.1 pc2 = .ok (.ldiv, 1)) : JX Value.long M sh pc (pc2 + 1) nx (divL f g) :=
  JX.bin hf hg (fun _ => rfl) fun x y z e => by
    by_cases hy : y = 0
    · simp [hy] at e
    · simp only [hy, if_false] at e
      cases e
      exact ⟨fun _ => vok_long, fun G X C H locs ls ad cells slots st k => lv_ldiv C.1 C.2.1 d hy k⟩
def remL (f g : Ex Int64) : Ex Int64 := binx (fun x y : Int64 => if y = 0 then none else some (x - x / y * y)) f g
theorem JX.lrem {M : MI} {sh pc pc1 pc2 : Nat} {nx : List Nat} {f g : Ex Int64} (hf : JX Value.long M sh pc pc1 [] f) (hg : JX Value.long M (2 + sh) pc1 pc2 [] g) (d : decode M.2.1 pc2 = .ok (.lrem, 1)) : JX Value.long M sh pc (pc2 + 1) nx (remL f g) :=
  JX.bin hf hg (fun _ => rfl) fun x y z e => by
    by_cases hy : y = 0
    · simp [hy] at e
    · simp only [hy, if_false] at e
      cases e
      exact ⟨fun _ => vok_long, fun G X C H locs ls ad cells slots st k => lv_lrem C.1 C.2.1 d hy k⟩
def shlL (f : Ex Int64) (g : Ex Int32) : Ex Int64 := binx (fun (x : Int64) (y : Int32) => some (x <<< (y.toInt64 &&& 63))) f g
theorem JX.lshl {M : MI} {sh pc pc1 pc2 : Nat} {nx : List Nat} {f : Ex Int64} {g : Ex Int32} (hf : JX Value.long M sh pc pc1 [] f) (hg : JX Value.int M (2 + sh) pc1 pc2 [] g) (d : decode M.2.1 pc2 = .ok (.lshl, 1)) : JX Value.long M sh pc (pc2 + 1) nx (shlL f g) :=
  JX.bin hf hg (fun _ => rfl) fun x y z e => by
    cases e
    exact ⟨fun _ => vok_long, fun G X C H locs ls ad cells slots st k => lv_lshl C.1 C.2.1 d rfl k⟩
def i2L (f : Ex Int32) : Ex Int64 := unax (fun x : Int32 => some x.toInt64) f
theorem JX.i2l {M : MI} {sh pc pc1 : Nat} {nx : List Nat} {f : Ex Int32} (hf : JX Value.int M sh pc pc1 [] f) (d : decode M.2.1 pc1 = .ok (.i2l, 1)) : JX Value.long M sh pc (pc1 + 1) nx (i2L f) :=
  JX.una hf fun x z e => by
    cases e
    exact ⟨fun _ => vok_long, fun G X C H locs ls ad cells slots st k => lv_i2l C.1 C.2.1 d rfl k⟩
def l2I (f : Ex Int64) : Ex Int32 := unax (fun x : Int64 => some x.toInt32) f
theorem JX.l2i {M : MI} {sh pc pc1 : Nat} {nx : List Nat} {f : Ex Int64} (hf : JX Value.long M sh pc pc1 [] f) (d : decode M.2.1 pc1 = .ok (.l2i, 1)) : JX Value.int M sh pc (pc1 + 1) nx (l2I f) :=
  JX.una hf fun x z e => by
    cases e
    exact ⟨fun _ => vok_int, fun G X C H locs ls ad cells slots st k => lv_l2i C.1 C.2.1 d rfl k⟩
/-! conditions -/
theorem CJ.bin {α β : Type} {ia : α → Value} {ib : β → Value} {op : α → β → Bool} {P : α → β → Prop} {M : MI} {sense : Bool} {sh sh1 tgt pc pc1 pc2 pc3 : Nat} {nx : List Nat} {f : Ex α} {g : Ex β} (hf : JX ia M sh pc pc1 [] f) (hg : JX ib M sh1 pc1 pc2 [] g) (hs : ∀ x, (ia x).category + sh = sh1) (hP : ∀ x y, P x y ↔ op x y = sense)
    (row : ∀ x y G X, CCx M G X → ∀ H locs ls ad cells slots (st : List Value), (P x y → wX X H locs cells slots (F0 X.2.1.2.1 tgt ls st)) → (¬ P x y → wX X H locs cells slots (F0 X.2.1.2.1 pc3 ls st)) → wX X H locs cells slots (F0 X.2.1.2.1 pc2 ls (cvv ad (ib y) :: cvv ad (ia x) :: st))) : CJ M sense sh tgt pc pc3 nx (binx (fun x y => some (op x y)) f g) := by
  intro env h z h' e κ hκ
  obtain ⟨x, h1, y, e1, e2, e3⟩ := bin_some e
  obtain ⟨κ1, g1, l1, k1⟩ := hf env h x h1 e1 κ hκ
  obtain ⟨κ2, g2, l2, k2⟩ := hg env h1 y h' e2 κ1 g1
  have ez : op x y = z := Option.some.inj e3
  refine ⟨κ2, g2, kle_tr l1 l2, fun G X C hE st hst A B => k1 G X C (kle_tr l2 hE) st hst fun t ht => ?_⟩
  rcases ht with rfl | ht
  · refine k2 G X C hE (ia x :: st) (by rw [wds_cons, hst]; exact hs x) fun t ht => ?_
    rcases ht with rfl | ht
    · intro H locs ls ad bk cells slots hW hL hEn hV hS hn0 had hc hsl
      have hV' : ∀ v ∈ st, vok (hN h') v := fun v q => hV v (List.mem_cons_of_mem _ (List.mem_cons_of_mem _ q))
      exact row x y G X C H locs ls ad cells slots (st.map (cvv ad)) (fun p => A (by rw [← ez]; exact (hP x y).mp p) H locs ls ad bk cells slots hW hL hEn hV' hS hn0 had hc hsl) (fun p => B (by rw [← ez]; exact fun q => p ((hP x y).mpr q)) pc3 (Or.inl rfl) H locs ls ad bk cells slots hW hL hEn hV' hS hn0 had hc hsl)
    · cases ht
  · cases ht
theorem CJ.una {α : Type} {ia : α → Value} {op : α → Bool} {P : α → Prop} {M : MI} {sense : Bool} {sh tgt pc pc1 pc3 : Nat} {nx : List Nat} {f : Ex α} (hf : JX ia M sh pc pc1 [] f) (hP : ∀ x, P x ↔ op x = sense)
    (row : ∀ x G X, CCx M G X → ∀ H locs ls ad cells slots (st : List Value), (P x → wX X H locs cells slots (F0 X.2.1.2.1 tgt ls st)) → (¬ P x → wX X H locs cells slots (F0 X.2.1.2.1 pc3 ls st)) → wX X H locs cells slots (F0 X.2.1.2.1 pc1 ls (cvv ad (ia x) :: st))) : CJ M sense sh tgt pc pc3 nx (unax (fun x => some (op x)) f) := by
  intro env h z h' e κ hκ
  obtain ⟨x, e1, e3⟩ := una_some e
  obtain ⟨κ1, g1, l1, k1⟩ := hf env h x h' e1 κ hκ
  have ez : op x = z := Option.some.inj e3
  refine ⟨κ1, g1, l1, fun G X C hE st hst A B => k1 G X C hE st hst fun t ht => ?_⟩
  rcases ht with rfl | ht
  · intro H locs ls ad bk cells slots hW hL hEn hV hS hn0 had hc hsl
    have hV' : ∀ v ∈ st, vok (hN h') v := fun v q => hV v (List.mem_cons_of_mem _ q)
    exact row x G X C H locs ls ad cells slots (st.map (cvv ad)) (fun p => A (by rw [← ez]; exact (hP x).mp p) H locs ls ad bk cells slots hW hL hEn hV' hS hn0 had hc hsl) (fun p => B (by rw [← ez]; exact fun q => p ((hP x).mpr q)) pc3 (Or.inl rfl) H locs ls ad bk cells slots hW hL hEn hV' hS hn0 had hc hsl)
  · cases ht
theorem CJ.lon {op : Int64 → Int64 → Bool} {P : Int64 → Int64 → Prop} {M : MI} {sense : Bool} {sh tgt pc pc1 pc2 : Nat} {nx : List Nat} {f g : Ex Int64} (hf : JX Value.long M sh pc pc1 [] f) (hg : JX Value.long M (2 + sh) pc1 pc2 [] g) (d : decode M.2.1 pc2 = .ok (.lcmp, 1)) (hP : ∀ x y, P x y ↔ op x y = sense)
    (row : ∀ x y G X, CCx M G X → ∀ H locs ls cells slots (st : List Value), (P x y → wX X H locs cells slots (F0 X.2.1.2.1 tgt ls st)) → (¬ P x y → wX X H locs cells slots (F0 X.2.1.2.1 (pc2 + 1 + 3) ls st)) → wX X H locs cells slots (F0 X.2.1.2.1 (pc2 + 1) ls (.int (lg_cmp x y) :: st))) : CJ M sense sh tgt pc (pc2 + 1 + 3) nx (binx (fun x y => some (op x y)) f g) :=
  CJ.bin hf hg (fun _ => rfl) hP fun x y G X C H locs ls ad cells slots st a b => W.lcmp C.1 C.2.1 d (row x y G X C H locs ls cells slots st a b)
def eqI (f g : Ex Int32) : Ex Bool := binx (fun x y : Int32 => some (decide (x = y))) f g
def eq0 (f : Ex Int32) : Ex Bool := unax (fun x : Int32 => some (decide (x = 0))) f
def eqL (f g : Ex Int64) : Ex Bool := binx (fun x y : Int64 => some (decide (x = y))) f g
def neI (f g : Ex Int32) : Ex Bool := binx (fun x y : Int32 => some (decide (¬ x = y))) f g
def ne0 (f : Ex Int32) : Ex Bool := unax (fun x : Int32 => some (decide (¬ x = 0))) f
def neL (f g : Ex Int64) : Ex Bool := binx (fun x y : Int64 => some (decide (¬ x = y))) f g
def ltI (f g : Ex Int32) : Ex Bool := binx (fun x y : Int32 => some (decide (x < y))) f g
def lt0 (f : Ex Int32) : Ex Bool := unax (fun x : Int32 => some (decide (x < 0))) f
def ltL (f g : Ex Int64) : Ex Bool := binx (fun x y : Int64 => some (decide (x < y))) f g
def geI (f g : Ex Int32) : Ex Bool := binx (fun x y : Int32 => some (decide (y ≤ x))) f g
def ge0 (f : Ex Int32) : Ex Bool := unax (fun x : Int32 => some (decide (0 ≤ x))) f
def geL (f g : Ex Int64) : Ex Bool := binx (fun x y : Int64 => some (decide (y ≤ x))) f g
def gtI (f g : Ex Int32) : Ex Bool := binx (fun x y : Int32 => some (decide (y < x))) f g
def gt0 (f : Ex Int32) : Ex Bool := unax (fun x : Int32 => some (decide (0 < x))) f
def gtL (f g : Ex Int64) : Ex Bool := binx (fun x y : Int64 => some (decide (y < x))) f g
def leI (f g : Ex Int32) : Ex Bool := binx (fun x y : Int32 => some (decide (x ≤ y))) f g
def le0 (f : Ex Int32) : Ex Bool := unax (fun x : Int32 => some (decide (x ≤ 0))) f
def leL (f g : Ex Int64) : Ex Bool := binx (fun x y : Int64 => some (decide (x ≤ y))) f g
theorem CJ.eq_t {M : MI} {sh tgt pc pc1 pc2 : Nat} {nx : List Nat} {f g : Ex Int32} {off : Int} (hf : JX Value.int M sh pc pc1 [] f) (hg : JX Value.int M (1 + sh) pc1 pc2 [] g) (d : decode M.2.1 pc2 = .ok (.if_icmp .eq off, 3)) (ht : (pc2 : Int) + off = (tgt : Int)) : CJ M true sh tgt pc (pc2 + 3) nx (eqI f g) :=
  CJ.bin (P := fun x y : Int32 => x = y) hf hg (fun _ => rfl) (fun x y => by simp) fun x y G X C H locs ls ad cells slots st a b => lv_icmp_eq C.1 C.2.1 d ht a b
theorem CJ.eq0_t {M : MI} {sh tgt pc pc1 : Nat} {nx : List Nat} {f : Ex Int32} {off : Int} (hf : JX Value.int M sh pc pc1 [] f) (d : decode M.2.1 pc1 = .ok (.ifCond .eq off, 3)) (ht : (pc1 : Int) + off = (tgt : Int)) : CJ M true sh tgt pc (pc1 + 3) nx (eq0 f) :=
  CJ.una (P := fun x : Int32 => x = 0) hf (fun x => by simp) fun x G X C H locs ls ad cells slots st a b => lv_if_eq C.1 C.2.1 d ht a b
theorem CJ.eqL_t {M : MI} {sh tgt pc pc1 pc2 : Nat} {nx : List Nat} {f g : Ex Int64} {off : Int} (hf : JX Value.long M sh pc pc1 [] f) (hg : JX Value.long M (2 + sh) pc1 pc2 [] g) (d : decode M.2.1 pc2 = .ok (.lcmp, 1)) (d2 : decode M.2.1 (pc2 + 1) = .ok (.ifCond .eq off, 3)) (ht : ((pc2 + 1 : Nat) : Int) + off = (tgt : Int)) : CJ M true sh tgt pc (pc2 + 1 + 3) nx (eqL f g) :=
  CJ.lon (P := fun x y : Int64 => x = y) hf hg d (fun x y => by simp) fun x y G X C H locs ls cells slots st a b => lv_if_eq C.1 C.2.1 d2 ht (fun q => a ((lg_cmp_eq x y).mp q)) (fun q => b (fun r => q ((lg_cmp_eq x y).mpr r)))
theorem CJ.eq_f {M : MI} {sh tgt pc pc1 pc2 : Nat} {nx : List Nat} {f g : Ex Int32} {off : Int} (hf : JX Value.int M sh pc pc1 [] f) (hg : JX Value.int M (1 + sh) pc1 pc2 [] g) (d : decode M.2.1 pc2 = .ok (.if_icmp .ne off, 3)) (ht : (pc2 : Int) + off = (tgt : Int)) : CJ M false sh tgt pc (pc2 + 3) nx (eqI f g) :=
  CJ.bin (P := fun x y : Int32 => ¬ x = y) hf hg (fun _ => rfl) (fun x y => by first | (simp; done) | (simp [Int32.not_lt]; done) | (simp [Int32.not_le]; done)) fun x y G X C H locs ls ad cells slots st a b => lv_icmp_ne C.1 C.2.1 d ht a (fun q => b (fun n => n q))
theorem CJ.eq0_f {M : MI} {sh tgt pc pc1 : Nat} {nx : List Nat} {f : Ex Int32} {off : Int} (hf : JX Value.int M sh pc pc1 [] f) (d : decode M.2.1 pc1 = .ok (.ifCond .ne off, 3)) (ht : (pc1 : Int) + off = (tgt : Int)) : CJ M false sh tgt pc (pc1 + 3) nx (eq0 f) :=
  CJ.una (P := fun x : Int32 => ¬ x = 0) hf (fun x => by first | (simp; done) | (simp [Int32.not_lt]; done) | (simp [Int32.not_le]; done)) fun x G X C H locs ls ad cells slots st a b => lv_if_ne C.1 C.2.1 d ht a (fun q => b (fun n => n q))
theorem CJ.eqL_f {M : MI} {sh tgt pc pc1 pc2 : Nat} {nx : List Nat} {f g : Ex Int64} {off : Int} (hf : JX Value.long M sh pc pc1 [] f) (hg : JX Value.long M (2 + sh) pc1 pc2 [] g) (d : decode M.2.1 pc2 = .ok (.lcmp, 1)) (d2 : decode M.2.1 (pc2 + 1) = .ok (.ifCond .ne off, 3)) (ht : ((pc2 + 1 : Nat) : Int) + off = (tgt : Int)) : CJ M false sh tgt pc (pc2 + 1 + 3) nx (eqL f g) :=
  CJ.lon (P := fun x y : Int64 => ¬ x = y) hf hg d (fun x y => by first | (simp; done) | (simp [Int64.not_lt]; done) | (simp [Int64.not_le]; done)) fun x y G X C H locs ls cells slots st a b => lv_if_ne C.1 C.2.1 d2 ht (fun q => a (fun r => q ((lg_cmp_eq x y).mpr r))) (fun q => b (fun n => n ((lg_cmp_eq x y).mp q)))
theorem CJ.ne_t {M : MI} {sh tgt pc pc1 pc2 : Nat} {nx : List Nat} {f g : Ex Int32} {off : Int} (hf : JX Value.int M sh pc pc1 [] f) (hg : JX Value.int M (1 + sh) pc1 pc2 [] g) (d : decode M.2.1 pc2 = .ok (.if_icmp .ne off, 3)) (ht : (pc2 : Int) + off = (tgt : Int)) : CJ M true sh tgt pc (pc2 + 3) nx (neI f g) :=
  CJ.bin (P := fun x y : Int32 => ¬ x = y) hf hg (fun _ => rfl) (fun x y => by simp) fun x y G X C H locs ls ad cells slots st a b => lv_icmp_ne C.1 C.2.1 d ht a (fun q => b (fun n => n q))
theorem CJ.ne0_t {M : MI} {sh tgt pc pc1 : Nat} {nx : List Nat} {f : Ex Int32} {off : Int} (hf : JX Value.int M sh pc pc1 [] f) (d : decode M.2.1 pc1 = .ok (.ifCond .ne off, 3)) (ht : (pc1 : Int) + off = (tgt : Int)) : CJ M true sh tgt pc (pc1 + 3) nx (ne0 f) :=
  CJ.una (P := fun x : Int32 => ¬ x = 0) hf (fun x => by simp) fun x G X C H locs ls ad cells slots st a b => lv_if_ne C.1 C.2.1 d ht a (fun q => b (fun n => n q))
theorem CJ.neL_t {M : MI} {sh tgt pc pc1 pc2 : Nat} {nx : List Nat} {f g : Ex Int64} {off : Int} (hf : JX Value.long M sh pc pc1 [] f) (hg : JX Value.long M (2 + sh) pc1 pc2 [] g) (d : decode M.2.1 pc2 = .ok (.lcmp, 1)) (d2 : decode M.2.1 (pc2 + 1) = .ok (.ifCond .ne off, 3)) (ht : ((pc2 + 1 : Nat) : Int) + off = (tgt : Int)) : CJ M true sh tgt pc (pc2 + 1 + 3) nx (neL f g) :=
  CJ.lon (P := fun x y : Int64 => ¬ x = y) hf hg d (fun x y => by simp) fun x y G X C H locs ls cells slots st a b => lv_if_ne C.1 C.2.1 d2 ht (fun q => a (fun r => q ((lg_cmp_eq x y).mpr r))) (fun q => b (fun n => n ((lg_cmp_eq x y).mp q)))
theorem CJ.ne_f {M : MI} {sh tgt pc pc1 pc2 : Nat} {nx : List Nat} {f g : Ex Int32} {off : Int} (hf : JX Value.int M sh pc pc1 [] f) (hg : JX Value.int M (1 + sh) pc1 pc2 [] g) (d : decode M.2.1 pc2 = .ok (.if_icmp .eq off, 3)) (ht : (pc2 : Int) + off = (tgt : Int)) : CJ M false sh tgt pc (pc2 + 3) nx (neI f g) :=
  CJ.bin (P := fun x y : Int32 => x = y) hf hg (fun _ => rfl) (fun x y => by first | (simp; done) | (simp [Int32.not_lt]; done) | (simp [Int32.not_le]; done)) fun x y G X C H locs ls ad cells slots st a b => lv_icmp_eq C.1 C.2.1 d ht a b
theorem CJ.ne0_f {M : MI} {sh tgt pc pc1 : Nat} {nx : List Nat} {f : Ex Int32} {off : Int} (hf : JX Value.int M sh pc pc1 [] f) (d : decode M.2.1 pc1 = .ok (.ifCond .eq off, 3)) (ht : (pc1 : Int) + off = (tgt : Int)) : CJ M false sh tgt pc (pc1 + 3) nx (ne0 f) :=
  CJ.una (P := fun x : Int32 => x = 0) hf (fun x => by first | (simp; done) | (simp [Int32.not_lt]; done) | (simp [Int32.not_le]; done)) fun x G X C H locs ls ad cells slots st a b => lv_if_eq C.1 C.2.1 d ht a b
theorem CJ.neL_f {M : MI} {sh tgt pc pc1 pc2 : Nat} {nx : List Nat} {f g : Ex Int64} {off : Int} (hf : JX Value.long M sh pc pc1 [] f) (hg : JX Value.long M (2 + sh) pc1 pc2 [] g) (d : decode M.2.1 pc2 = .ok (.lcmp, 1)) (d2 : decode M.2.1 (pc2 + 1) = .ok (.ifCond .eq off, 3)) (ht : ((pc2 + 1 : Nat) : Int) + off = (tgt : Int)) : CJ M false sh tgt pc (pc2 + 1 + 3) nx (neL f g) :=
  CJ.lon (P := fun x y : Int64 => x = y) hf hg d (fun x y => by first | (simp; done) | (simp [Int64.not_lt]; done) | (simp [Int64.not_le]; done)) fun x y G X C H locs ls cells slots st a b => lv_if_eq C.1 C.2.1 d2 ht (fun q => a ((lg_cmp_eq x y).mp q)) (fun q => b (fun r => q ((lg_cmp_eq x y).mpr r)))
theorem CJ.lt_t {M : MI} {sh tgt pc pc1 pc2 : Nat} {nx : List Nat} {f g : Ex Int32} {off : Int} (hf : JX Value.int M sh pc pc1 [] f) (hg : JX Value.int M (1 + sh) pc1 pc2 [] g) (d : decode M.2.1 pc2 = .ok (.if_icmp .lt off, 3)) (ht : (pc2 : Int) + off = (tgt : Int)) : CJ M true sh tgt pc (pc2 + 3) nx (ltI f g) :=
  CJ.bin (P := fun x y : Int32 => x < y) hf hg (fun _ => rfl) (fun x y => by simp) fun x y G X C H locs ls ad cells slots st a b => lv_icmp_lt C.1 C.2.1 d ht a b
theorem CJ.lt0_t {M : MI} {sh tgt pc pc1 : Nat} {nx : List Nat} {f : Ex Int32} {off : Int} (hf : JX Value.int M sh pc pc1 [] f) (d : decode M.2.1 pc1 = .ok (.ifCond .lt off, 3)) (ht : (pc1 : Int) + off = (tgt : Int)) : CJ M true sh tgt pc (pc1 + 3) nx (lt0 f) :=
  CJ.una (P := fun x : Int32 => x < 0) hf (fun x => by simp) fun x G X C H locs ls ad cells slots st a b => lv_if_lt C.1 C.2.1 d ht a b
theorem CJ.ltL_t {M : MI} {sh tgt pc pc1 pc2 : Nat} {nx : List Nat} {f g : Ex Int64} {off : Int} (hf : JX Value.long M sh pc pc1 [] f) (hg : JX Value.long M (2 + sh) pc1 pc2 [] g) (d : decode M.2.1 pc2 = .ok (.lcmp, 1)) (d2 : decode M.2.1 (pc2 + 1) = .ok (.ifCond .lt off, 3)) (ht : ((pc2 + 1 : Nat) : Int) + off = (tgt : Int)) : CJ M true sh tgt pc (pc2 + 1 + 3) nx (ltL f g) :=
  CJ.lon (P := fun x y : Int64 => x < y) hf hg d (fun x y => by simp) fun x y G X C H locs ls cells slots st a b => lv_if_lt C.1 C.2.1 d2 ht (fun q => a ((lg_cmp_lt x y).mp q)) (fun q => b (fun r => q ((lg_cmp_lt x y).mpr r)))
theorem CJ.lt_f {M : MI} {sh tgt pc pc1 pc2 : Nat} {nx : List Nat} {f g : Ex Int32} {off : Int} (hf : JX Value.int M sh pc pc1 [] f) (hg : JX Value.int M (1 + sh) pc1 pc2 [] g) (d : decode M.2.1 pc2 = .ok (.if_icmp .ge off, 3)) (ht : (pc2 : Int) + off = (tgt : Int)) : CJ M false sh tgt pc (pc2 + 3) nx (ltI f g) :=
  CJ.bin (P := fun x y : Int32 => y ≤ x) hf hg (fun _ => rfl) (fun x y => by first | (simp; done) | (simp [Int32.not_lt]; done) | (simp [Int32.not_le]; done)) fun x y G X C H locs ls ad cells slots st a b => lv_icmp_ge C.1 C.2.1 d ht a b
theorem CJ.lt0_f {M : MI} {sh tgt pc pc1 : Nat} {nx : List Nat} {f : Ex Int32} {off : Int} (hf : JX Value.int M sh pc pc1 [] f) (d : decode M.2.1 pc1 = .ok (.ifCond .ge off, 3)) (ht : (pc1 : Int) + off = (tgt : Int)) : CJ M false sh tgt pc (pc1 + 3) nx (lt0 f) :=
  CJ.una (P := fun x : Int32 => 0 ≤ x) hf (fun x => by first | (simp; done) | (simp [Int32.not_lt]; done) | (simp [Int32.not_le]; done)) fun x G X C H locs ls ad cells slots st a b => lv_if_ge C.1 C.2.1 d ht a b
theorem CJ.ltL_f {M : MI} {sh tgt pc pc1 pc2 : Nat} {nx : List Nat} {f g : Ex Int64} {off : Int} (hf : JX Value.long M sh pc pc1 [] f) (hg : JX Value.long M (2 + sh) pc1 pc2 [] g) (d : decode M.2.1 pc2 = .ok (.lcmp, 1)) (d2 : decode M.2.1 (pc2 + 1) = .ok (.ifCond .ge off, 3)) (ht : ((pc2 + 1 : Nat) : Int) + off = (tgt : Int)) : CJ M false sh tgt pc (pc2 + 1 + 3) nx (ltL f g) :=
  CJ.lon (P := fun x y : Int64 => y ≤ x) hf hg d (fun x y => by first | (simp; done) | (simp [Int64.not_lt]; done) | (simp [Int64.not_le]; done)) fun x y G X C H locs ls cells slots st a b => lv_if_ge C.1 C.2.1 d2 ht (fun q => a ((lg_cmp_ge x y).mp q)) (fun q => b (fun r => q ((lg_cmp_ge x y).mpr r)))
theorem CJ.ge_t {M : MI} {sh tgt pc pc1 pc2 : Nat} {nx : List Nat} {f g : Ex Int32} {off : Int} (hf : JX Value.int M sh pc pc1 [] f) (hg : JX Value.int M (1 + sh) pc1 pc2 [] g) (d : decode M.2.1 pc2 = .ok (.if_icmp .ge off, 3)) (ht : (pc2 : Int) + off = (tgt : Int)) : CJ M true sh tgt pc (pc2 + 3) nx (geI f g) :=
  CJ.bin (P := fun x y : Int32 => y ≤ x) hf hg (fun _ => rfl) (fun x y => by simp) fun x y G X C H locs ls ad cells slots st a b => lv_icmp_ge C.1 C.2.1 d ht a b
theorem CJ.ge0_t {M : MI} {sh tgt pc pc1 : Nat} {nx : List Nat} {f : Ex Int32} {off : Int} (hf : JX Value.int M sh pc pc1 [] f) (d : decode M.2.1 pc1 = .ok (.ifCond .ge off, 3)) (ht : (pc1 : Int) + off = (tgt : Int)) : CJ M true sh tgt pc (pc1 + 3) nx (ge0 f) :=
  CJ.una (P := fun x : Int32 => 0 ≤ x) hf (fun x => by simp) fun x G X C H locs ls ad cells slots st a b => lv_if_ge C.1 C.2.1 d ht a b
theorem CJ.geL_t {M : MI} {sh tgt pc pc1 pc2 : Nat} {nx : List Nat} {f g : Ex Int64} {off : Int} (hf : JX Value.long M sh pc pc1 [] f) (hg : JX Value.long M (2 + sh) pc1 pc2 [] g) (d : decode M.2.1 pc2 = .ok (.lcmp, 1)) (d2 : decode M.2.1 (pc2 + 1) = .ok (.ifCond .ge off, 3)) (ht : ((pc2 + 1 : Nat) : Int) + off = (tgt : Int)) : CJ M true sh tgt pc (pc2 + 1 + 3) nx (geL f g) :=
  CJ.lon (P := fun x y : Int64 => y ≤ x) hf hg d (fun x y => by simp) fun x y G X C H locs ls cells slots st a b => lv_if_ge C.1 C.2.1 d2 ht (fun q => a ((lg_cmp_ge x y).mp q)) (fun q => b (fun r => q ((lg_cmp_ge x y).mpr r)))
theorem CJ.ge_f {M : MI} {sh tgt pc pc1 pc2 : Nat} {nx : List Nat} {f g : Ex Int32} {off : Int} (hf : JX Value.int M sh pc pc1 [] f) (hg : JX Value.int M (1 + sh) pc1 pc2 [] g) (d : decode M.2.1 pc2 = .ok (.if_icmp .lt off, 3)) (ht : (pc2 : Int) + off = (tgt : Int)) : CJ M false sh tgt pc (pc2 + 3) nx (geI f g) :=
  CJ.bin (P := fun x y : Int32 => x < y) hf hg (fun _ => rfl) (fun x y => by first | (simp; done) | (simp [Int32.not_lt]; done) | (simp [Int32.not_le]; done)) fun x y G X C H locs ls ad cells slots st a b => lv_icmp_lt C.1 C.2.1 d ht a b
theorem CJ.ge0_f {M : MI} {sh tgt pc pc1 : Nat} {nx : List Nat} {f : Ex Int32} {off : Int} (hf : JX Value.int M sh pc pc1 [] f) (d : decode M.2.1 pc1 = .ok (.ifCond .lt off, 3)) (ht : (pc1 : Int) + off = (tgt : Int)) : CJ M false sh tgt pc (pc1 + 3) nx (ge0 f) :=
  CJ.una (P := fun x : Int32 => x < 0) hf (fun x => by first | (simp; done) | (simp [Int32.not_lt]; done) | (simp [Int32.not_le]; done)) fun x G X C H locs ls ad cells slots st a b => lv_if_lt C.1 C.2.1 d ht a b
theorem CJ.geL_f {M : MI} {sh tgt pc pc1 pc2 : Nat} {nx : List Nat} {f g : Ex Int64} {off : Int} (hf : JX Value.long M sh pc pc1 [] f) (hg : JX Value.long M (2 + sh) pc1 pc2 [] g) (d : decode M.2.1 pc2 = .ok (.lcmp, 1)) (d2 : decode M.2.1 (pc2 + 1) = .ok (.ifCond .lt off, 3)) (ht : ((pc2 + 1 : Nat) : Int) + off = (tgt : Int)) : CJ M false sh tgt pc (pc2 + 1 + 3) nx (geL f g) :=
  CJ.lon (P := fun x y : Int64 => x < y) hf hg d (fun x y => by first | (simp; done) | (simp [Int64.not_lt]; done) | (simp [Int64.not_le]; done)) fun x y G X C H locs ls cells slots st a b => lv_if_lt C.1 C.2.1 d2 ht (fun q => a ((lg_cmp_lt x y).mp q)) (fun q => b (fun r => q ((lg_cmp_lt x y).mpr r)))
theorem CJ.gt_t {M : MI} {sh tgt pc pc1 pc2 : Nat} {nx : List Nat} {f g : Ex Int32} {off : Int} (hf : JX Value.int M sh pc pc1 [] f) (hg : JX Value.int M (1 + sh) pc1 pc2 [] g) (d : decode M.2.1 pc2 = .ok (.if_icmp .gt off, 3)) (ht : (pc2 : Int) + off = (tgt : Int)) : CJ M true sh tgt pc (pc2 + 3) nx (gtI f g) :=
  CJ.bin (P := fun x y : Int32 => y < x) hf hg (fun _ => rfl) (fun x y => by simp) fun x y G X C H locs ls ad cells slots st a b => lv_icmp_gt C.1 C.2.1 d ht a b
theorem CJ.gt0_t {M : MI} {sh tgt pc pc1 : Nat} {nx : List Nat} {f : Ex Int32} {off : Int} (hf : JX Value.int M sh pc pc1 [] f) (d : decode M.2.1 pc1 = .ok (.ifCond .gt off, 3)) (ht : (pc1 : Int) + off = (tgt : Int)) : CJ M true sh tgt pc (pc1 + 3) nx (gt0 f) :=
  CJ.una (P := fun x : Int32 => 0 < x) hf (fun x => by simp) fun x G X C H locs ls ad cells slots st a b => lv_if_gt C.1 C.2.1 d ht a b
theorem CJ.gtL_t {M : MI} {sh tgt pc pc1 pc2 : Nat} {nx : List Nat} {f g : Ex Int64} {off : Int} (hf : JX Value.long M sh pc pc1 [] f) (hg : JX Value.long M (2 + sh) pc1 pc2 [] g) (d : decode M.2.1 pc2 = .ok (.lcmp, 1)) (d2 : decode M.2.1 (pc2 + 1) = .ok (.ifCond .gt off, 3)) (ht : ((pc2 + 1 : Nat) : Int) + off = (tgt : Int)) : CJ M true sh tgt pc (pc2 + 1 + 3) nx (gtL f g) :=
  CJ.lon (P := fun x y : Int64 => y < x) hf hg d (fun x y => by simp) fun x y G X C H locs ls cells slots st a b => lv_if_gt C.1 C.2.1 d2 ht (fun q => a ((lg_cmp_gt x y).mp q)) (fun q => b (fun r => q ((lg_cmp_gt x y).mpr r)))
theorem CJ.gt_f {M : MI} {sh tgt pc pc1 pc2 : Nat} {nx : List Nat} {f g : Ex Int32} {off : Int} (hf : JX Value.int M sh pc pc1 [] f) (hg : JX Value.int M (1 + sh) pc1 pc2 [] g) (d : decode M.2.1 pc2 = .ok (.if_icmp .le off, 3)) (ht : (pc2 : Int) + off = (tgt : Int)) : CJ M false sh tgt pc (pc2 + 3) nx (gtI f g) :=
  CJ.bin (P := fun x y : Int32 => x ≤ y) hf hg (fun _ => rfl) (fun x y => by first | (simp; done) | (simp [Int32.not_lt]; done) | (simp [Int32.not_le]; done)) fun x y G X C H locs ls ad cells slots st a b => lv_icmp_le C.1 C.2.1 d ht a b
theorem CJ.gt0_f {M : MI} {sh tgt pc pc1 : Nat} {nx : List Nat} {f : Ex Int32} {off : Int} (hf : JX Value.int M sh pc pc1 [] f) (d : decode M.2.1 pc1 = .ok (.ifCond .le off, 3)) (ht : (pc1 : Int) + off = (tgt : Int)) : CJ M false sh tgt pc (pc1 + 3) nx (gt0 f) :=
  CJ.una (P := fun x : Int32 => x ≤ 0) hf (fun x => by first | (simp; done) | (simp [Int32.not_lt]; done) | (simp [Int32.not_le]; done)) fun x G X C H locs ls ad cells slots st a b => lv_if_le C.1 C.2.1 d ht a b
theorem CJ.gtL_f {M : MI} {sh tgt pc pc1 pc2 : Nat} {nx : List Nat} {f g : Ex Int64} {off : Int} (hf : JX Value.long M sh pc pc1 [] f) (hg : JX Value.long M (2 + sh) pc1 pc2 [] g) (d : decode M.2.1 pc2 = .ok (.lcmp, 1)) (d2 : decode M.2.1 (pc2 + 1) = .ok (.ifCond .le off, 3)) (ht : ((pc2 + 1 : Nat) : Int) + off = (tgt : Int)) : CJ M false sh tgt pc (pc2 + 1 + 3) nx (gtL f g) :=
  CJ.lon (P := fun x y : Int64 => x ≤ y) hf hg d (fun x y => by first | (simp; done) | (simp [Int64.not_lt]; done) | (simp [Int64.not_le]; done)) fun x y G X C H locs ls cells slots st a b => lv_if_le C.1 C.2.1 d2 ht (fun q => a ((lg_cmp_le x y).mp q)) (fun q => b (fun r => q ((lg_cmp_le x y).mpr r)))
theorem CJ.le_t {M : MI} {sh tgt pc pc1 pc2 : Nat} {nx : List Nat} {f g : Ex Int32} {off : Int} (hf : JX Value.int M sh pc pc1 [] f) (hg : JX Value.int M (1 + sh) pc1 pc2 [] g) (d : decode M.2.1 pc2 = .ok (.if_icmp .le off, 3)) (ht : (pc2 : Int) + off = (tgt : Int)) : CJ M true sh tgt pc (pc2 + 3) nx (leI f g) :=
  CJ.bin (P := fun x y : Int32 => x ≤ y) hf hg (fun _ => rfl) (fun x y => by simp) fun x y G X C H locs ls ad cells slots st a b => lv_icmp_le C.1 C.2.1 d ht a b
theorem CJ.le0_t {M : MI} {sh tgt pc pc1 : Nat} {nx : List Nat} {f : Ex Int32} {off : Int} (hf : JX Value.int M sh pc pc1 [] f) (d : decode M.2.1 pc1 = .ok (.ifCond .le off, 3)) (ht : (pc1 : Int) + off = (tgt : Int)) : CJ M true sh tgt pc (pc1 + 3) nx (le0 f) :=
  CJ.una (P := fun x : Int32 => x ≤ 0) hf (fun x => by simp) fun x G X C H locs ls ad cells slots st a b => lv_if_le C.1 C.2.1 d ht a b
theorem CJ.leL_t {M : MI} {sh tgt pc pc1 pc2 : Nat} {nx : List Nat} {f g : Ex Int64} {off : Int} (hf : JX Value.long M sh pc pc1 [] f) (hg : JX Value.long M (2 + sh) pc1 pc2 [] g) (d : decode M.2.1 pc2 = .ok (.lcmp, 1)) (d2 : decode M.2.1 (pc2 + 1) = .ok (.ifCond .le off, 3)) (ht : ((pc2 + 1 : Nat) : Int) + off = (tgt : Int)) : CJ M true sh tgt pc (pc2 + 1 + 3) nx (leL f g) :=
  CJ.lon (P := fun x y : Int64 => x ≤ y) hf hg d (fun x y => by simp) fun x y G X C H locs ls cells slots st a b => lv_if_le C.1 C.2.1 d2 ht (fun q => a ((lg_cmp_le x y).mp q)) (fun q => b (fun r => q ((lg_cmp_le x y).mpr r)))
theorem CJ.le_f {M : MI} {sh tgt pc pc1 pc2 : Nat} {nx : List Nat} {f g : Ex Int32} {off : Int} (hf : JX Value.int M sh pc pc1 [] f) (hg : JX Value.int M (1 + sh) pc1 pc2 [] g) (d : decode M.2.1 pc2 = .ok (.if_icmp .gt off, 3)) (ht : (pc2 : Int) + off = (tgt : Int)) : CJ M false sh tgt pc (pc2 + 3) nx (leI f g) :=
  CJ.bin (P := fun x y : Int32 => y < x) hf hg (fun _ => rfl) (fun x y => by first | (simp; done) | (simp [Int32.not_lt]; done) | (simp [Int32.not_le]; done)) fun x y G X C H locs ls ad cells slots st a b => lv_icmp_gt C.1 C.2.1 d ht a b
theorem CJ.le0_f {M : MI} {sh tgt pc pc1 : Nat} {nx : List Nat} {f : Ex Int32} {off : Int} (hf : JX Value.int M sh pc pc1 [] f) (d : decode M.2.1 pc1 = .ok (.ifCond .gt off, 3)) (ht : (pc1 : Int) + off = (tgt : Int)) : CJ M false sh tgt pc (pc1 + 3) nx (le0 f) :=
  CJ.una (P := fun x : Int32 => 0 < x) hf (fun x => by first | (simp; done) | (simp [Int32.not_lt]; done) | (simp [Int32.not_le]; done)) fun x G X C H locs ls ad cells slots st a b => lv_if_gt C.1 C.2.1 d ht a b
theorem CJ.leL_f {M : MI} {sh tgt pc pc1 pc2 : Nat} {nx : List Nat} {f g : Ex Int64} {off : Int} (hf : JX Value.long M sh pc pc1 [] f) (hg : JX Value.long M (2 + sh) pc1 pc2 [] g) (d : decode M.2.1 pc2 = .ok (.lcmp, 1)) (d2 : decode M.2.1 (pc2 + 1) = .ok (.ifCond .gt off, 3)) (ht : ((pc2 + 1 : Nat) : Int) + off = (tgt : Int)) : CJ M false sh tgt pc (pc2 + 1 + 3) nx (leL f g) :=
  CJ.lon (P := fun x y : Int64 => y < x) hf hg d (fun x y => by first | (simp; done) | (simp [Int64.not_lt]; done) | (simp [Int64.not_le]; done)) fun x y G X C H locs ls cells slots st a b => lv_if_gt C.1 C.2.1 d2 ht (fun q => a ((lg_cmp_gt x y).mp q)) (fun q => b (fun r => q ((lg_cmp_gt x y).mpr r)))
