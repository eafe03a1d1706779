/-! ===== arguments ===== -/
abbrev Args : Type := List Slot → AH → Option (List Value × AH)
def agN : Args := fun _ h => some ([], h)
def agC {α : Type} (inj : α → Value) (f : Ex α) (r : Args) : Args := fun env h => (f env h).bind fun x => (r env x.2).bind fun y => some (inj x.1 :: y.1, y.2)
def JA (M : MI) (sh pc pc' : Nat) (f : Args) : Prop :=
  ∀ env h vs h', f env h = some (vs, h') → ∀ κ, Gdk h κ → ∃ κ', Gdk h' κ' ∧ kle κ κ' ∧ ∀ G X, CCx M G X → kle κ' X.2.2.2.2.1 → ∀ st, wds st = sh → AWg G X M.2.2.1 pc' env (vs.reverse ++ st) h' κ' → AWg G X M.2.2.1 pc env st h κ
theorem JA.nil {M : MI} {sh pc : Nat} : JA M sh pc pc agN := by
  intro env h vs h' e κ hκ
  cases e
  exact ⟨κ, hκ, kle_rf κ, fun G X C hE st hst A => A⟩
theorem JA.cons {α : Type} {inj : α → Value} {M : MI} {sh sh1 pc pc1 pc2 : Nat} {f : Ex α} {r : Args} (hf : JX inj M sh pc pc1 [] f) (hr : JA M sh1 pc1 pc2 r) (hs : ∀ x, (inj x).category + sh = sh1) : JA M sh pc pc2 (agC inj f r) := by
  intro env h vs h' e κ hκ
  obtain ⟨⟨x, h1⟩, e1, e⟩ := Option.bind_eq_some_iff.mp e
  obtain ⟨⟨ys, h2⟩, e2, e⟩ := Option.bind_eq_some_iff.mp e
  cases e
  obtain ⟨κ1, g1, l1, k1⟩ := hf env h x h1 e1 κ hκ
  obtain ⟨κ2, g2, l2, k2⟩ := hr env h1 ys _ e2 κ1 g1
  refine ⟨κ2, g2, kle_tr l1 l2, fun G X C hE st hst A => k1 G X C (kle_tr l2 hE) st hst fun t ht => ?_⟩
  rcases ht with rfl | ht
  · refine k2 G X C hE (inj x :: st) (by rw [wds_cons, hst]; exact hs x) ?_
    have e3 : ys.reverse ++ inj x :: st = (inj x :: ys).reverse ++ st := by simp
    rw [e3]
    exact A
  · cases ht
theorem JA.i {M : MI} {sh pc pc1 pc2 : Nat} {f : Ex Int32} {r : Args} (hf : JX Value.int M sh pc pc1 [] f) (hr : JA M (1 + sh) pc1 pc2 r) : JA M sh pc pc2 (agC Value.int f r) := JA.cons hf hr fun _ => rfl
theorem JA.l {M : MI} {sh pc pc1 pc2 : Nat} {f : Ex Int64} {r : Args} (hf : JX Value.long M sh pc pc1 [] f) (hr : JA M (2 + sh) pc1 pc2 r) : JA M sh pc pc2 (agC Value.long f r) := JA.cons hf hr fun _ => rfl
theorem JA.r {M : MI} {sh pc pc1 pc2 : Nat} {f : Ex (Option Nat)} {r : Args} (hf : JX va_rf M sh pc pc1 [] f) (hr : JA M (1 + sh) pc1 pc2 r) : JA M sh pc pc2 (agC va_rf f r) := JA.cons hf hr fun x => by cases x <;> rfl
/-! ===== methods ===== -/
abbrev MS : Type := List Value → AH → Option (Option Value × AH)
def rmD (dep : Nat) (κ κ' : KP) : Room := { frames := dep, cells := κ'.2.1 - κ.2.1, slots := κ'.2.2.1 - κ.2.2.1, locals := 100 * dep }
def PcM (G : GX) (vs : List Value) (h : AH) (κ : KP) (ad : Nat → Nat) (bk : Nat → Nat → Int32) : Array Value → State → Prop := fun a U => a = (vs.map (cvv ad)).toArray ∧ Wd G h κ.1 ad bk U.heap ∧ (∀ v ∈ vs, vok (hN h) v) ∧ KKx G U U.heap ∧ G.2.2 ≤ U.heap.size
def QcM (G : GX) (v : Option Value) (h h' : AH) (κ' : KP) (ad : Nat → Nat) : Array Value → State → Outcome → State → Prop := fun _ st o t => ∃ ad' bk', o = .returned (v.map (cvv ad')) ∧ (∀ q, q < hN h → ad' (2 * q) = ad (2 * q)) ∧ Wd G h' κ'.1 ad' bk' t.heap ∧ (∀ w, v = some w → vok (hN h') w) ∧ va_F (aBs G) st t
/-- a method does f, with dep frames -/
def MA (y : MethodName) (cc : ByteArray) (nL : Nat) (ret : Option FieldType) (dep : Nat) (f : MS) : Prop :=
  ∀ vs h v h', f vs h = some (v, h') → ∀ κ, Gdk h κ → ∃ κ', Gdk h' κ' ∧ kle κ κ' ∧ ∀ (l : Launch) (G : GX) (ad : Nat → Nat) (bk : Nat → Nat → Int32), Met l y (Cond.code y cc nL ret :: GW) (rmD dep κ κ') (PcM G vs h κ ad bk) (QcM G v h h' κ' ad) (κ'.2.1 - κ.2.1) (κ'.2.2.1 - κ.2.2.1) (aBs G)
def rtB (ret : Option FieldType) (v : Option Value) : Bool := match ret, v with
  | none, none => true
  | some .int, some (.int _) => true
  | some .boolean, some (.int x) => x == 0 || x == 1
  | some .long, some (.long _) => true
  | some (.object _), some (.ref _) => true
  | _, _ => false
def entE (nL : Nat) (vs : List Value) : List Slot := lg_sl vs ++ List.replicate (nL - (lg_sl vs).length) Slot.unset
/-- a method's meaning by its body's -/
def runM (nL : Nat) (ret : Option FieldType) (b : St) : MS := fun vs h => if (lg_sl vs).length ≤ nL then (b (entE nL vs) h).bind fun r => match r.1 with
  | .inr v => if rtB ret v = true then some (v, r.2.2) else none
  | _ => none else none
def cvS (ad : Nat → Nat) : Slot → Slot
  | .val v => .val (cvv ad v)
  | x => x
theorem lg_sl_map (ad : Nat → Nat) (vs : List Value) : lg_sl (vs.map (cvv ad)) = (lg_sl vs).map (cvS ad) := by
  induction vs with
  | nil => rfl
  | cons v vs ih =>
    simp only [lg_sl, List.map_cons, List.flatMap_cons] at ih ⊢
    rw [ih, List.map_append, cvv_cat]
    by_cases h : v.category = 2
    · rw [if_pos h, if_pos h]; rfl
    · rw [if_neg h, if_neg h]; rfl
theorem entE_map (ad : Nat → Nat) (nL : Nat) (vs : List Value) : entE nL (vs.map (cvv ad)) = (entE nL vs).map (cvS ad) := by
  unfold entE
  rw [lg_sl_map, List.map_append, List.length_map, List.map_replicate]
  rfl
theorem lg_sl_mem {vs : List Value} {v : Value} (h : Slot.val v ∈ lg_sl vs) : v ∈ vs := by
  unfold lg_sl at h
  obtain ⟨w, h1, h2⟩ := List.mem_flatMap.mp h
  split at h2
  · rcases List.mem_cons.mp h2 with e | e
    · cases e; exact h1
    · have := List.mem_singleton.mp e; cases this
  · have := List.mem_singleton.mp h2
    cases this; exact h1
theorem Met.ofWF {l : Launch} {y : MethodName} {ws ws' : List Cond} {rm : Room} {Pc : Array Value → State → Prop} {Qc : Array Value → State → Outcome → State → Prop} {mc ms : Nat} {free : Addr → Prop} {cc : ByteArray} {maxL : Nat} {ret : Option FieldType}
    (hy : plainFor y = true) (hw : ws = Cond.code y cc maxL ret :: ws')
    (body : ∀ p e s m args below meth c s₁, BodyLoose p l y (headSpec ws rm) cc maxL ret e s m args below meth c s₁ → c.maxLocals = maxL → Pc args s →
      W p l e (headSpec ws rm).room s m args below meth c s.heap [] 0 0 (MQ below Qc args s mc ms free) (entryFrame m args maxL)) : Met l y ws rm Pc Qc mc ms free := by
  refine MetFree.of_bodySF (code := cc) (maxLocals := maxL) (ret := ret) hy ?_ ?_
  · intro args s m h hn
    obtain ⟨meth, c, h1, h2, h3, h4, h5, h6, -, -⟩ := Cond.code_spec hn (atoms_spec (ws := ws) h _ (by rw [hw]; exact List.mem_cons_self))
    exact ⟨meth, c, h1, h2, h3, h4, h5, h6⟩
  · intro p e s m args below meth c s₁ B hml hP _
    have hh0 : s₁.heap = s.heap := by rw [B.state]; rfl
    obtain ⟨t, a1, o, b1, b2, b3⟩ := body p e s m args below meth c s₁ B hml hP s₁ hh0 (Stand.of_body B)
    exact ⟨t, o, a1, b1, b2, ⟨b3.1, b3.2⟩⟩
set_option maxHeartbeats 1000000 in
theorem MA.of {y : MethodName} {cc : ByteArray} {nL dep pcE : Nat} {ret : Option FieldType} {b : St} (hy : plainFor y = true) (J : JS (y.cls, cc, nL, dep, y.name == "<init>") 0 0 0 pcE [] b) : MA y cc nL ret dep (runM nL ret b) := by
  intro vs h v h' e κ hκ
  unfold runM at e
  split at e
  · rename_i hlen
    obtain ⟨⟨r, env', h2⟩, e1, e⟩ := Option.bind_eq_some_iff.mp e
    cases r with
    | inl n => cases e
    | inr v2 =>
      dsimp only at e
      split at e
      · rename_i hrt
        cases e
        obtain ⟨κ', g', l', k'⟩ := J (entE nL vs) h (.inr v) env' h' e1 κ hκ
        refine ⟨κ', g', l', fun l G ad bk => ?_⟩
        refine Met.ofWF (cc := cc) (maxL := nL) (ret := ret) hy rfl ?_
        intro p e s m args below meth c s₁ B hml hv
        obtain ⟨rfl, hW0, hvs, hK, hbs⟩ := hv
        have hin : meth.name = y.name := (name_of_methodNamed B.named B.method).1
        have hts := atoms_spec (ws := Cond.code y cc nL ret :: GW) B.pre
        have hlocks := B.notSynchronized
        rw [lg_entry_eq]
        have hl := lv_entry (vs.map (cvv ad)) (n := nL) (by rw [lg_sl_map, List.length_map]; exact hlen)
        have hLc : Lcs (entE nL (vs.map (cvv ad))).toArray nL (entE nL vs) ad := by
          refine ⟨hl.1, hl.2.1, fun k w hk => ?_⟩
          rw [entE_map, List.getElem?_toArray, List.getElem?_map, hk]
          rfl
        have A := k' G ((p, l, e, (headSpec (Cond.code y cc nL ret :: GW) (rmD dep κ κ')).room), (s, m, (vs.map (cvv ad)).toArray, below), (meth, c, MQ below (QcM G v h h' κ' ad) (vs.map (cvv ad)).toArray s (κ'.2.1 - κ.2.1) (κ'.2.2.1 - κ.2.2.1) (aBs G)), (κ, κ', ad, hN h))
          ⟨B.exec, B.bytes, hml, findClass_of_methodNamed B.named, fun w hw => hts w (List.mem_cons_of_mem _ hw), hK, Nat.le_refl _, Nat.le_refl _, Nat.sub_add_cancel l'.1, Nat.sub_add_cancel l'.2.1, hbs, fun hi => by rw [hin]; exact eq_of_beq hi⟩ (kle_rf κ') (fun q => by cases q) (fun q => by cases q) (fun q => by cases q) (fun w hw => ?_)
        · exact A s.heap [] _ ad bk 0 0 hW0 hLc (fun w hw => by
            rcases List.mem_append.mp hw with h1 | h1
            · exact hvs w (lg_sl_mem h1)
            · have := (List.mem_replicate.mp h1).2; cases this) (fun w hw => by cases hw) va_S.rf (Nat.le_refl _) (fun q _ => rfl) (Nat.zero_add _) (Nat.zero_add _)
        · cases hw
          intro pc env hd H locs ls ad' bk' cells slots hW hL hE hV hS hn0 had hc hs
          have e1 : cells = κ'.2.1 - κ.2.1 := by dsimp only at hc; omega
          have e2 : slots = κ'.2.2.1 - κ.2.2.1 := by dsimp only at hs; omega
          subst e1; subst e2
          have fin : ∀ t : State, t.heap = H → QcM G v h h' κ' ad (vs.map (cvv ad)).toArray s (.returned (v.map (cvv ad'))) t := fun t ht => ⟨ad', bk', rfl, had, by rw [ht]; exact hW, fun w hw => hV w (by rw [hw]; exact List.mem_cons_self), hS.F ht⟩
          have hb : c.code = cc := B.bytes
          have hr := B.returns
          cases v with
          | none =>
            cases ret with
            | some t => cases t <;> cases hrt
            | none => exact W.vret B.exec hb hr (fun t ht _ => fin t ht) hS.2.2 hd hlocks
          | some w =>
            cases ret with
            | none => cases hrt
            | some t =>
              cases w with
              | int x =>
                cases t with
                | int => exact W.zret B.exec hb hr rfl (fun t ht _ => fin t ht) hS.2.2 hd hlocks
                | boolean =>
                  refine W.zret B.exec hb hr ?_ (fun t ht _ => fin t ht) hS.2.2 hd hlocks
                  have h01 : x = 0 ∨ x = 1 := by simpa [rtB] using hrt
                  rcases h01 with z | z <;> rw [z] <;> rfl
                | _ => cases hrt
              | long x =>
                cases t with
                | long => exact W.lret B.exec hb hr (fun t ht _ => fin t ht) hS.2.2 hd hlocks
                | _ => cases hrt
              | ref a =>
                cases t with
                | object n => exact W.aret B.exec hb hr (Or.inl ⟨n, rfl⟩) (Or.inr ⟨_, rfl⟩) (fun t ht _ => fin t ht) hS.2.2 hd hlocks
                | _ => cases hrt
              | _ => cases t <;> cases hrt
      · cases e
  · cases e
