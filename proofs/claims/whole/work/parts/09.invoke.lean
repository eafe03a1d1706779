/-! ===== calls ===== -/
theorem gw_good : ∀ w ∈ GW, w ∈ GW ∧ ((w.onTables && w.keeps) = true ∨ ∃ ty, w = .arrayClass ty) := fun w hw => ⟨hw, good_of_word (List.mem_filter.mp hw).2⟩
theorem gw_in {y : MethodName} {cc : ByteArray} {nL : Nat} {ret : Option FieldType} (hc : Cond.code y cc nL ret ∈ GW) : GoodIn GW (Cond.code y cc nL ret :: GW) := fun w hw => (List.mem_cons.mp hw).elim (fun e => e ▸ gw_good _ hc) (gw_good w)
theorem PcM.blind {G : GX} {vs : List Value} {h : AH} {κ : KP} {ad : Nat → Nat} {bk : Nat → Nat → Int32} : FrameBlind (PcM G vs h κ ad bk) := fun a U g mk q => ⟨q.1, q.2.1, q.2.2.1, (KKx.same (s := U) (U := U.calling g mk a) (H := U.heap) rfl q.2.2.2.1 : KKx G (U.calling g mk a) U.heap), q.2.2.2.2⟩
/-- the machine at the call's instruction: with a contract it runs -/
def RunK (M : MI) (pc : Nat) (y : MethodName) (cc : ByteArray) (nL : Nat) (ret : Option FieldType) (dep : Nat) (chk : List Value → AH → Bool) : Prop :=
  ∀ G X, CCx M G X → ∀ (vs : List Value) (h : AH) (κ κ' : KP) (ad : Nat → Nat) (bk : Nat → Nat → Int32) (H : Heap) (locs : List Loc) (ls : Array Slot) (cells slots : Nat) (st : List Value) (Qc : Array Value → State → Outcome → State → Prop), chk vs h = true → Wd G h κ.1 ad bk H → ls.size = M.2.2.1 → wds st ≤ 8 →
    Met X.1.2.1 y (Cond.code y cc nL ret :: GW) (rmD dep κ κ') (PcM G vs h κ ad bk) Qc (κ'.2.1 - κ.2.1) (κ'.2.2.1 - κ.2.2.1) (aBs G) → (∀ U : State, U.heap = H → X.2.1.1.WarmedH U.vm → PcM G vs h κ ad bk (vs.map (cvv ad)).toArray U) → cells + (κ'.2.1 - κ.2.1) ≤ X.1.2.2.2.cells ∧ slots + (κ'.2.2.1 - κ.2.2.1) ≤ X.1.2.2.2.slots →
    va_Run X.1.1 X.1.2.1 X.1.2.2.1 X.1.2.2.2 X.2.1.1 X.2.1.2.1 X.2.1.2.2.1 X.2.1.2.2.2 X.2.2.1.1 X.2.2.1.2.1 H locs cells slots (κ'.2.1 - κ.2.1) (κ'.2.2.1 - κ.2.2.1) (F0 X.2.1.2.1 pc ls ((vs.map (cvv ad)).reverse ++ st)) st (Qc (vs.map (cvv ad)).toArray) (aBs G)
theorem cats_map (ad : Nat → Nat) (st : List Value) : wds (st.map (cvv ad)) = wds st := by
  induction st with
  | nil => rfl
  | cons v st ih => rw [List.map_cons, wds_cons, wds_cons, ih, cvv_cat]
theorem call_at {M : MI} {pc1 : Nat} {y : MethodName} {cc : ByteArray} {nL : Nat} {ret : Option FieldType} {dep : Nat} {chk : List Value → AH → Bool} {f : MS} (hm : MA y cc nL ret dep f) (hr : RunK M pc1 y cc nL ret dep chk) {h1 h' : AH} {vs : List Value} {v : Option Value} (e2 : chk vs h1 = true) (e3 : f vs h1 = some (v, h')) {κ1 : KP} (g1 : Gdk h1 κ1) :
    ∃ κ2, Gdk h' κ2 ∧ kle κ1 κ2 ∧ ∀ G X, CCx M G X → kle κ2 X.2.2.2.2.1 → ∀ env st, wds st ≤ 8 → AWg G X M.2.2.1 (pc1 + 3) env (v.toList ++ st) h' κ2 → AWg G X M.2.2.1 pc1 env (vs.reverse ++ st) h1 κ1 := by
  obtain ⟨κ2, g2, l2, k2⟩ := hm vs h1 v h' e3 κ1 g1
  refine ⟨κ2, g2, l2, fun G X C hE env st hst A => ?_⟩
  intro H locs ls ad bk cells slots hW hL hEn hV hS hn0 had hc hsl
  have hN12 : hN h1 ≤ hN h' := by
    have a := g1.2.2.2
    have b := g2.2.2.2
    have c := l2.2.2
    omega
  have hcap : cells + (κ2.2.1 - κ1.2.1) ≤ X.1.2.2.2.cells ∧ slots + (κ2.2.2.1 - κ1.2.2.1) ≤ X.1.2.2.2.slots := by
    have a := C.2.2.2.2.2.2.2.2.1
    have b := C.2.2.2.2.2.2.2.2.2.1
    have c := l2.1
    have d := l2.2.1
    have e := hE.1
    have f := hE.2.1
    omega
  have pre : ∀ U : State, U.heap = H → X.2.1.1.WarmedH U.vm → PcM G vs h1 κ1 ad bk (vs.map (cvv ad)).toArray U := fun U hU hw => ⟨rfl, by rw [hU]; exact hW, fun v hv => hV v (List.mem_append_left _ (List.mem_reverse.mpr hv)), by
      rw [hU]
      exact C.2.2.2.2.2.1.next hw fun a h1 h2 => hS.2.1 a h1 h2, by rw [hU]; exact Nat.le_trans C.2.2.2.2.2.2.2.2.2.2.1 hS.1⟩
  have run := hr G X C vs h1 κ1 κ2 ad bk H locs ls cells slots (st.map (cvv ad)) _ e2 hW hL.1 (by rw [cats_map]; exact hst) (k2 X.1.2.1 G ad bk) pre hcap
  rw [List.map_append, List.map_reverse]
  intro T hT Xs
  obtain ⟨v', st₀, t, T', L, b0, X', hLf, b1, b2, ⟨ad', bk', hv', hag, hW', hvk, hF⟩, go⟩ := run T hT Xs
  cases hv'
  have hS' : va_S (aBs G) X.2.1.1.heap T'.heap (locs ++ L) := by
    unfold va_F at hF
    rw [b0] at hF
    refine ⟨Nat.le_trans hS.1 (by rw [b1]; exact hF.1), fun q h1 h2 => ?_, fun q hq => ?_⟩
    · rw [b1, hF.2 q (Nat.lt_of_lt_of_le h1 hS.1) h2]
      exact hS.2.1 q h1 h2
    · rcases List.mem_append.mp hq with z | z
      · exact hS.2.2 q z
      · exact hLf q z
  have agc : ∀ w, vok (hN h1) w → cvv ad' w = cvv ad w := fun w hw => by
    cases w with
    | ref a => show Value.ref _ = Value.ref _; rw [hag a (hw a rfl)]
    | _ => rfl
  have up : ∀ w, vok (hN h1) w → vok (hN h') w := fun w hw a ha => Nat.lt_of_lt_of_le (hw a ha) hN12
  have hVst : ∀ w ∈ st, vok (hN h1) w := fun w hw => hV w (List.mem_append_right _ hw)
  have W2 := A T'.heap (locs ++ L) ls ad' bk' (cells + (κ2.2.1 - κ1.2.1)) (slots + (κ2.2.2.1 - κ1.2.2.1)) (by rw [b1]; exact hW') ⟨hL.1, hL.2.1, fun k w hk => by rw [agc w (hEn w (List.mem_of_getElem? hk))]; exact hL.2.2 k w hk⟩ (fun w hw => up w (hEn w hw)) (fun w hw => by
      rcases List.mem_append.mp hw with z | z
      · exact hvk w (by cases v with
          | none => cases z
          | some u => rw [List.mem_singleton.mp z])
      · exact up w (hVst w z)) hS' (Nat.le_trans hn0 hN12) (fun q hq => (hag q (Nat.lt_of_lt_of_le hq hn0)).trans (had q hq)) (by have := l2.1; omega) (by have := l2.2.1; omega)
  obtain ⟨t2, a1, a2⟩ := W2 T' rfl X'
  refine ⟨t2, go t2 ?_, a2⟩
  have est : (v.toList ++ st).map (cvv ad') = (v.map (cvv ad')).toList ++ st.map (cvv ad) := by
    rw [List.map_append]
    congr 1
    · cases v <;> rfl
    · exact List.map_congr_left fun w hw => agc w (hVst w hw)
  rw [est] at a1
  exact a1
theorem call_core {M : MI} {sh pc pc1 : Nat} {y : MethodName} {cc : ByteArray} {nL : Nat} {ret : Option FieldType} {dep : Nat} {chk : List Value → AH → Bool} {f : MS} {as : Args} (ha : JA M sh pc pc1 as) (hm : MA y cc nL ret dep f) (hr : RunK M pc1 y cc nL ret dep chk) (hsh : sh ≤ 8) {env : List Slot} {h h1 h' : AH} {vs : List Value} {v : Option Value} (e1 : as env h = some (vs, h1)) (e2 : chk vs h1 = true) (e3 : f vs h1 = some (v, h')) {κ : KP} (hκ : Gdk h κ) :
    ∃ κ', Gdk h' κ' ∧ kle κ κ' ∧ ∀ G X, CCx M G X → kle κ' X.2.2.2.2.1 → ∀ st, wds st = sh → AWg G X M.2.2.1 (pc1 + 3) env (v.toList ++ st) h' κ' → AWg G X M.2.2.1 pc env st h κ := by
  obtain ⟨κ1, g1, l1, k1⟩ := ha env h vs h1 e1 κ hκ
  obtain ⟨κ2, g2, l2, k2⟩ := call_at hm hr e2 e3 g1
  exact ⟨κ2, g2, kle_tr l1 l2, fun G X C hE st hst A => k1 G X C (kle_tr l2 hE) st hst (k2 G X C hE env st (by rw [hst]; exact hsh) A)⟩
/-! answers -/
def decI : Option Value → Option Int32
  | some (.int x) => some x
  | _ => none
def decL : Option Value → Option Int64
  | some (.long x) => some x
  | _ => none
def decR : Option Value → Option (Option Nat)
  | some (.ref a) => some (some a)
  | _ => none
def calX {α : Type} (dec : Option Value → Option α) (chk : List Value → AH → Bool) (m : MS) (as : Args) : Ex α := fun env h => (as env h).bind fun r => if chk r.1 r.2 = true then (m r.1 r.2).bind fun r2 => (dec r2.1).bind fun x => some (x, r2.2) else none
def calS (chk : List Value → AH → Bool) (m : MS) (as : Args) : St := fun env h => (as env h).bind fun r => if chk r.1 r.2 = true then (m r.1 r.2).bind fun r2 => match r2.1 with
  | none => some (.inl 0, env, r2.2)
  | some _ => none else none
theorem JX.call {α : Type} {inj : α → Value} {dec : Option Value → Option α} (hdec : ∀ v x, dec v = some x → v = some (inj x)) {M : MI} {sh pc pc1 : Nat} {nx : List Nat} {y : MethodName} {cc : ByteArray} {nL : Nat} {ret : Option FieldType} {dep : Nat} {chk : List Value → AH → Bool} {f : MS} {as : Args} (ha : JA M sh pc pc1 as) (hm : MA y cc nL ret dep f) (hr : RunK M pc1 y cc nL ret dep chk) (hsh : sh ≤ 8) : JX inj M sh pc (pc1 + 3) nx (calX dec chk f as) := by
  intro env h x h' e κ hκ
  obtain ⟨⟨vs, h1⟩, e1, e⟩ := Option.bind_eq_some_iff.mp e
  dsimp only at e
  split at e
  · rename_i e2
    obtain ⟨⟨v, h2⟩, e3, e⟩ := Option.bind_eq_some_iff.mp e
    obtain ⟨x', e4, e⟩ := Option.bind_eq_some_iff.mp e
    cases e
    have ev := hdec v x e4
    subst ev
    obtain ⟨κ', g', l', k'⟩ := call_core ha hm hr hsh e1 e2 e3 hκ
    exact ⟨κ', g', l', fun G X C hE st hst A => k' G X C hE st hst (A _ (Or.inl rfl))⟩
  · cases e
theorem JS.call {M : MI} {brk cont pc pc1 : Nat} {nx : List Nat} {y : MethodName} {cc : ByteArray} {nL : Nat} {ret : Option FieldType} {dep : Nat} {chk : List Value → AH → Bool} {f : MS} {as : Args} (ha : JA M 0 pc pc1 as) (hm : MA y cc nL ret dep f) (hr : RunK M pc1 y cc nL ret dep chk) : JS M brk cont pc (pc1 + 3) nx (calS chk f as) := by
  intro env h r env' h' e κ hκ
  obtain ⟨⟨vs, h1⟩, e1, e⟩ := Option.bind_eq_some_iff.mp e
  dsimp only at e
  split at e
  · rename_i e2
    obtain ⟨⟨v, h2⟩, e3, e⟩ := Option.bind_eq_some_iff.mp e
    cases v with
    | some w => cases e
    | none =>
      cases e
      obtain ⟨κ', g', l', k'⟩ := call_core ha hm hr (Nat.zero_le 8) e1 e2 e3 hκ
      exact ⟨κ', g', l', fun G X C hE A _ _ _ => k' G X C hE [] rfl (A rfl _ (Or.inl rfl))⟩
  · cases e
theorem decI_ok : ∀ v x, decI v = some x → v = some (Value.int x) := fun v x e => by
  unfold decI at e
  split at e
  · cases e; rfl
  · cases e
theorem decL_ok : ∀ v x, decL v = some x → v = some (Value.long x) := fun v x e => by
  unfold decL at e
  split at e
  · cases e; rfl
  · cases e
theorem decR_ok : ∀ v x, decR v = some x → v = some (va_rf x) := fun v x e => by
  unfold decR at e
  split at e
  · cases e; rfl
  · cases e
/-! the kinds of call -/
/-- the receiver is of the class c -/
def rcB (c : Nat) (vs : List Value) (h : AH) : Bool := match vs with
  | .ref q :: _ => decide (hT h q = (0, c)) || (decide (c = 5) && decide ((hT h q).1 = 1))
  | _ => false
def noB (_ : List Value) (_ : AH) : Bool := true
theorem rc_cell {M : MI} {G : GX} {X : CX} (C : CCx M G X) {c : Nat} (hc : ClF c) {vs : List Value} {h : AH} (hr : rcB c vs h = true) {caps ad : Nat → Nat} {bk : Nat → Nat → Int32} {H : Heap} (hW : Wd G h caps ad bk H) : ∃ q As, vs = .ref q :: As ∧ ∃ cell : Cell, H[ad (2 * q)]? = some cell ∧ cell.vm.isStatics = false ∧ X.2.1.1.vm.findClass (vwR c) = some cell.cls := by
  unfold rcB at hr
  split at hr
  · rename_i q As
    refine ⟨q, As, rfl, ?_⟩
    have hcc : hT h q = (0, c) ∨ (c = 5 ∧ (hT h q).1 = 1) := by simpa using hr
    have hq : q < hN h := hW.lt (by
      rcases hcc with z | z
      · rw [z]; simp
      · omega)
    obtain ⟨⟨ws, pos, hP, hD, h1, h2⟩, -⟩ := hW
    have e := h1 (2 * q) (lvk_main hq)
    rw [enn_main] at e
    rcases hcc with z | ⟨z1, z2⟩
    · rw [ekk_obj z] at e
      exact va_recv C.2.2.2.2.2.1.1 hP hc.1 e
    · subst z1
      rw [ekk_row z2] at e
      exact va_recv C.2.2.2.2.2.1.1 hP hc.1 e
  · cases hr
/-- what a call needs of the tables: the name, its code, its number of arguments; the room -/
def CallN (M : MI) (y : MethodName) (cc : ByteArray) (nL : Nat) (ret : Option FieldType) (dep n : Nat) : Prop := Cond.code y cc nL ret ∈ GW ∧ Cond.initialized y.cls ∈ GW ∧ (y.cls ≠ "java/lang/invoke/MethodHandle" ∧ y.cls ≠ "java/lang/invoke/VarHandle" ∧ (parseMethodDescriptor y.desc).map (fun d => d.parameters.length) = some n) ∧ dep + 1 ≤ M.2.2.2.1 ∧ nL ≤ 81
theorem room_ok {M : MI} {G : GX} {X : CX} (C : CCx M G X) {dep nL : Nat} {κ κ' : KP} (h1 : dep + 1 ≤ M.2.2.2.1) (h2 : nL ≤ 81) : (rmD dep κ κ').frames + 1 ≤ X.1.2.2.2.frames ∧ 8 + (nL + 11) + (rmD dep κ κ').locals ≤ X.1.2.2.2.locals := by
  have a := C.2.2.2.2.2.2.1
  have b := C.2.2.2.2.2.2.2.1
  refine ⟨Nat.le_trans h1 a, Nat.le_trans ?_ b⟩
  show 8 + (nL + 11) + 100 * dep ≤ _
  omega
theorem RunK.V {M : MI} {pc i c n : Nat} {y : MethodName} {cc : ByteArray} {nL : Nat} {ret : Option FieldType} {dep : Nat} (hc : ClF c) (hy : y.cls = vwR c) (N : CallN M y cc nL ret dep n) (w1 : Cond.methodLink M.1 i y ∈ GW) (w2 : Cond.instanceMethod y ∈ GW) (w3 : Cond.selects (vwR c) y y ∈ GW) (d : decode M.2.1 pc = .ok (.invokevirtual i, 3)) : RunK M pc y cc nL ret dep (fun vs h => rcB c vs h && decide (vs.length = n + 1)) := by
  intro G X C vs h κ κ' ad bk H locs ls cells slots st Qc hk hW hls hst hM pre hcap
  simp only [Bool.and_eq_true, decide_eq_true_eq] at hk
  obtain ⟨q, As, rfl, cell, c1, c2, c3⟩ := rc_cell C hc hk.1 hW
  have hgood := gw_in N.1
  have hB : CallB X.1.2.2.2 X.2.1.1 X.2.1.2.2.1 M.1 i y cc nL ret (Cond.code y cc nL ret :: GW) (rmD dep κ κ') (κ'.2.1 - κ.2.1) (κ'.2.2.1 - κ.2.2.1) n := callB_of n C.2.2.2.2.1 hgood rfl rfl rfl (C.2.2.2.2.1 _ N.2.1) (C.2.2.2.2.1 _ w1) N.2.2.1 (room_ok C N.2.2.2.1 N.2.2.2.2)
  exact va_runV (As := As.map (cvv ad)) (rest := st) (b := ad (2 * q)) (C := vwR c) ⟨C.1, C.2.1, C.2.2.1, C.2.2.2.1, C.2.2.2.2.1⟩ hM ⟨hB, C.2.2.2.2.1 _ w2, C.2.2.2.2.1 _ w3⟩ ⟨PcM.blind, ⟨cell, c1, c2, c3⟩, pre⟩ rfl (by have := hk.2; simpa using this) hls (by simp [cvv]) (by
    show 2 * 0 + _ ≤ 8
    have : wds st ≤ 8 := hst
    unfold wds at this
    omega) d hcap
theorem RunK.VN {M : MI} {pc i c n : Nat} {y : MethodName} {cc : ByteArray} {nL : Nat} {ret : Option FieldType} {dep : Nat} (hc : ClF c) (hy : y.cls = vwR c) (N : CallN M y cc nL ret dep n) (w1 : Cond.methodLinkNest M.1 i y RX11 ∈ NW) (w2 : Cond.instanceMethod y ∈ GW) (w3 : Cond.selects (vwR c) y y ∈ GW) (d : decode M.2.1 pc = .ok (.invokevirtual i, 3)) : RunK M pc y cc nL ret dep (fun vs h => rcB c vs h && decide (vs.length = n + 1)) := by
  intro G X C vs h κ κ' ad bk H locs ls cells slots st Qc hk hW hls hst hM pre hcap
  simp only [Bool.and_eq_true, decide_eq_true_eq] at hk
  obtain ⟨q, As, rfl, cell, c1, c2, c3⟩ := rc_cell C hc hk.1 hW
  have hgood := gw_in N.1
  have hB : va_CN X.1.2.2.2 X.2.1.1 X.2.1.2.2.1 M.1 i y RX11 cc nL ret (Cond.code y cc nL ret :: GW) (rmD dep κ κ') (κ'.2.1 - κ.2.1) (κ'.2.2.1 - κ.2.2.1) n := va_cnB n C.2.2.2.2.1 hgood rfl rfl rfl (C.2.2.2.2.2.1.2.1 _ w1) (C.2.2.2.2.1 _ N.2.1) N.2.2.1 (room_ok C N.2.2.2.1 N.2.2.2.2)
  exact va_runVN (As := As.map (cvv ad)) (rest := st) (b := ad (2 * q)) (C := vwR c) ⟨C.1, C.2.1, C.2.2.1, C.2.2.2.1, C.2.2.2.2.1⟩ hM ⟨hB, C.2.2.2.2.1 _ w2, C.2.2.2.2.1 _ w3⟩ ⟨PcM.blind, ⟨cell, c1, c2, c3⟩, pre⟩ rfl (by have := hk.2; simpa using this) hls (by simp [cvv]) (by
    show 2 * 0 + _ ≤ 8
    have : wds st ≤ 8 := hst
    unfold wds at this
    omega) d hcap
theorem RunK.S {M : MI} {pc i n : Nat} {y : MethodName} {cc : ByteArray} {nL : Nat} {ret : Option FieldType} {dep : Nat} (N : CallN M y cc nL ret dep n) (w1 : Cond.methodLink M.1 i y ∈ GW) (w2 : Cond.static y ∈ GW) (d : decode M.2.1 pc = .ok (.invokestatic i, 3)) : RunK M pc y cc nL ret dep (fun vs _ => decide (vs.length = n)) := by
  intro G X C vs h κ κ' ad bk H locs ls cells slots st Qc hk hW hls hst hM pre hcap
  have hk : vs.length = n := by simpa using hk
  have hgood := gw_in N.1
  have hB : CallB X.1.2.2.2 X.2.1.1 X.2.1.2.2.1 M.1 i y cc nL ret (Cond.code y cc nL ret :: GW) (rmD dep κ κ') (κ'.2.1 - κ.2.1) (κ'.2.2.1 - κ.2.2.1) n := callB_of n C.2.2.2.2.1 hgood rfl rfl rfl (C.2.2.2.2.1 _ N.2.1) (C.2.2.2.2.1 _ w1) N.2.2.1 (room_ok C N.2.2.2.1 N.2.2.2.2)
  exact va_runS (As := vs.map (cvv ad)) (rest := st) ⟨C.1, C.2.1, C.2.2.1, C.2.2.2.1, C.2.2.2.2.1⟩ hM ⟨hB, C.2.2.2.2.1 _ w2⟩ ⟨PcM.blind, pre⟩ rfl (by simpa using hk) hls rfl (by
    show 2 * 0 + _ ≤ 8
    have : wds st ≤ 8 := hst
    unfold wds at this
    omega) d hcap
/-- a constructor's receiver -/
def inB (n : Nat) (vs : List Value) (_ : AH) : Bool := match vs with
  | .ref _ :: as => decide (as.length = n)
  | _ => false
theorem RunK.I {M : MI} {pc i n : Nat} {y : MethodName} {cc : ByteArray} {nL : Nat} {dep : Nat} (hy : y.name = "<init>") (N : CallN M y cc nL none dep n) (w1 : Cond.methodLink M.1 i y ∈ GW ∨ Cond.methodLinkNest M.1 i y RX11 ∈ NW) (w2 : Cond.instanceMethod y ∈ GW) (d : decode M.2.1 pc = .ok (.invokespecial i, 3)) : RunK M pc y cc nL none dep (inB n) := by
  intro G X C vs h κ κ' ad bk H locs ls cells slots st Qc hk hW hls hst hM pre hcap
  unfold inB at hk
  split at hk
  · rename_i q As
    have hk : As.length = n := by simpa using hk
    have hgood := gw_in N.1
    have hst' : 2 * (F0 X.2.1.2.1 pc ls (((Value.ref q :: As).map (cvv ad)).reverse ++ st)).monitorRoom + (st.map fun v => v.category).sum ≤ 8 := by
      show 2 * 0 + _ ≤ 8
      have : wds st ≤ 8 := hst
      unfold wds at this
      omega
    rcases w1 with w1 | w1
    · have hB : CallB X.1.2.2.2 X.2.1.1 X.2.1.2.2.1 M.1 i y cc nL none (Cond.code y cc nL none :: GW) (rmD dep κ κ') (κ'.2.1 - κ.2.1) (κ'.2.2.1 - κ.2.2.1) n := callB_of n C.2.2.2.2.1 hgood rfl rfl rfl (C.2.2.2.2.1 _ N.2.1) (C.2.2.2.2.1 _ w1) N.2.2.1 (room_ok C N.2.2.2.1 N.2.2.2.2)
      exact va_runI (As := As.map (cvv ad)) (rest := st) (b := ad (2 * q)) ⟨C.1, C.2.1, C.2.2.1, C.2.2.2.1, C.2.2.2.2.1⟩ hM ⟨hB, hy, C.2.2.2.2.1 _ w2⟩ ⟨PcM.blind, pre⟩ rfl (by simpa using hk) hls (by simp [cvv]) hst' d hcap
    · have hB : va_CN X.1.2.2.2 X.2.1.1 X.2.1.2.2.1 M.1 i y RX11 cc nL none (Cond.code y cc nL none :: GW) (rmD dep κ κ') (κ'.2.1 - κ.2.1) (κ'.2.2.1 - κ.2.2.1) n := va_cnB n C.2.2.2.2.1 hgood rfl rfl rfl (C.2.2.2.2.2.1.2.1 _ w1) (C.2.2.2.2.1 _ N.2.1) N.2.2.1 (room_ok C N.2.2.2.1 N.2.2.2.2)
      exact va_runIN (As := As.map (cvv ad)) (rest := st) (b := ad (2 * q)) ⟨C.1, C.2.1, C.2.2.1, C.2.2.2.1, C.2.2.2.2.1⟩ hM ⟨hB, hy, C.2.2.2.2.1 _ w2⟩ ⟨PcM.blind, pre⟩ rfl (by simpa using hk) hls (by simp [cvv]) hst' d hcap
  · cases hk
