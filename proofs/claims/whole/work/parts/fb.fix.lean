/-! ===== the law: calls and new objects with the locals fixed ===== -/
def AWl (G : GX) (X : CX) (nL pc : Nat) (ls : Array Slot) (env : List Slot) (st : List Value) (h : AH) (κ : KP) : Prop :=
  ∀ (H : Heap) (locs : List Loc) (ad : Nat → Nat) (bk : Nat → Nat → Int32) (cells slots : Nat), Wd G h κ.1 ad bk H → Lcs ls nL env ad → (∀ v, Slot.val v ∈ env → vok (hN h) v) → (∀ v ∈ st, vok (hN h) v) → va_S (aBs G) X.2.1.1.heap H locs →
    X.2.2.2.2.2.2 ≤ hN h → (∀ q, q < X.2.2.2.2.2.2 → ad (2 * q) = X.2.2.2.2.2.1 (2 * q)) → cells + X.2.2.2.1.2.1 = κ.2.1 → slots + X.2.2.2.1.2.2.1 = κ.2.2.1 → wX X H locs cells slots (F0 X.2.1.2.1 pc ls (st.map (cvv ad)))
theorem call_fx {M : MI} {pc1 : Nat} {y : MethodName} {cc : ByteArray} {nL : Nat} {ret : Option FieldType} {dep : Nat} {chk : List Value → AH → Bool} {f : MS} (hm : MA y cc nL ret dep f) (hr : RunK M pc1 y cc nL ret dep chk) {h1 h' : AH} {vs : List Value} {v : Option Value} (e2 : chk vs h1 = true) (e3 : f vs h1 = some (v, h')) {κ1 : KP} (g1 : Gdk h1 κ1) :
    ∃ κ2, Gdk h' κ2 ∧ kle κ1 κ2 ∧ ∀ G X, CCx M G X → kle κ2 X.2.2.2.2.1 → ∀ ls env st, wds st ≤ 8 → AWl G X M.2.2.1 (pc1 + 3) ls env (v.toList ++ st) h' κ2 → AWl G X M.2.2.1 pc1 ls env (vs.reverse ++ st) h1 κ1 := by
  obtain ⟨κ2, g2, l2, k2⟩ := hm vs h1 v h' e3 κ1 g1
  refine ⟨κ2, g2, l2, fun G X C hE ls env st hst A => ?_⟩
  intro H locs ad bk cells slots hW hL hEn hV hS hn0 had hc hsl
  have hN12 : hN h1 ≤ hN h' := by
    have a := g1.2.2.2
    have b := g2.2.2.2
    have c := l2.2.2
    omega
  have hcap : cells + (κ2.2.1 - κ1.2.1) ≤ X.1.2.2.2.cells ∧ slots + (κ2.2.2.1 - κ1.2.2.1) ≤ X.1.2.2.2.slots := by
    have a := C.2.2.2.2.2.2.2.2.1
    have b := C.2.2.2.2.2.2.2.2.2.1
    have c := l2.1
    have d := l2.2.1
    have e := hE.1
    have f := hE.2.1
    omega
  have pre : ∀ U : State, U.heap = H → X.2.1.1.WarmedH U.vm → PcM G vs h1 κ1 ad bk (vs.map (cvv ad)).toArray U := fun U hU hw => ⟨rfl, by rw [hU]; exact hW, fun v hv => hV v (List.mem_append_left _ (List.mem_reverse.mpr hv)), by
      rw [hU]
      exact C.2.2.2.2.2.1.next hw fun a h1 h2 => hS.2.1 a h1 h2, by rw [hU]; exact Nat.le_trans C.2.2.2.2.2.2.2.2.2.2.1 hS.1⟩
  have run := hr G X C vs h1 κ1 κ2 ad bk H locs ls cells slots (st.map (cvv ad)) _ e2 hW hL.1 (by rw [cats_map]; exact hst) (k2 X.1.2.1 G ad bk) pre hcap
  rw [List.map_append, List.map_reverse]
  intro T hT Xs
  obtain ⟨v', st₀, t, T', L, b0, X', hLf, b1, b2, ⟨ad', bk', hv', hag, hW', hvk, hF⟩, go⟩ := run T hT Xs
  cases hv'
  have hS' : va_S (aBs G) X.2.1.1.heap T'.heap (locs ++ L) := by
    unfold va_F at hF
    rw [b0] at hF
    refine ⟨Nat.le_trans hS.1 (by rw [b1]; exact hF.1), fun q h1 h2 => ?_, fun q hq => ?_⟩
    · rw [b1, hF.2 q (Nat.lt_of_lt_of_le h1 hS.1) h2]
      exact hS.2.1 q h1 h2
    · rcases List.mem_append.mp hq with z | z
      · exact hS.2.2 q z
      · exact hLf q z
  have agc : ∀ w, vok (hN h1) w → cvv ad' w = cvv ad w := fun w hw => by
    cases w with
    | ref a => show Value.ref _ = Value.ref _; rw [hag a (hw a rfl)]
    | _ => rfl
  have up : ∀ w, vok (hN h1) w → vok (hN h') w := fun w hw a ha => Nat.lt_of_lt_of_le (hw a ha) hN12
  have hVst : ∀ w ∈ st, vok (hN h1) w := fun w hw => hV w (List.mem_append_right _ hw)
  have W2 := A T'.heap (locs ++ L) ad' bk' (cells + (κ2.2.1 - κ1.2.1)) (slots + (κ2.2.2.1 - κ1.2.2.1)) (by rw [b1]; exact hW') ⟨hL.1, hL.2.1, fun k w hk => by rw [agc w (hEn w (List.mem_of_getElem? hk))]; exact hL.2.2 k w hk⟩ (fun w hw => up w (hEn w hw)) (fun w hw => by
      rcases List.mem_append.mp hw with z | z
      · exact hvk w (by cases v with
          | none => cases z
          | some u => rw [List.mem_singleton.mp z])
      · exact up w (hVst w z)) hS' (Nat.le_trans hn0 hN12) (fun q hq => (hag q (Nat.lt_of_lt_of_le hq hn0)).trans (had q hq)) (by have := l2.1; omega) (by have := l2.2.1; omega)
  obtain ⟨t2, a1, a2⟩ := W2 T' rfl X'
  refine ⟨t2, go t2 ?_, a2⟩
  have est : (v.toList ++ st).map (cvv ad') = (v.map (cvv ad')).toList ++ st.map (cvv ad) := by
    rw [List.map_append]
    congr 1
    · cases v <;> rfl
    · exact List.map_congr_left fun w hw => agc w (hVst w hw)
  rw [est] at a1
  exact a1
theorem new_fx {M : MI} {pc i c : Nat} {y : MethodName} {cc : ByteArray} {nL dep : Nat} {m : MS} (hc : ClF c) (hty : ∀ k, k < vwN c → fokT (vwY c k) = true) (w1 : Cond.classLink M.1 i (vwR c) ∈ GW) (w2 : Cond.instantiable (vwR c) (vwN c) ∈ GW) (w3 : Cond.initialized (vwR c) ∈ GW) (d : decode M.2.1 pc = .ok (.new i, 3)) (d2 : decode M.2.1 (pc + 3) = .ok (.dup, 1)) (hm : MA y cc nL none dep m) (hr : RunK M (pc + 4) y cc nL none dep (inB 0)) {h h2 : AH} (e1 : m [.ref (hN h)] (hNew h (0, c)) = some (none, h2)) {κ : KP} (hκ : Gdk h κ) :
    ∃ κ2, Gdk h2 κ2 ∧ kle κ κ2 ∧ ∀ G X, CCx M G X → kle κ2 X.2.2.2.2.1 → ∀ ls env st, wds st + 1 ≤ 8 → AWl G X M.2.2.1 (pc + 7) ls env (va_rf (some (hN h)) :: st) h2 κ2 → AWl G X M.2.2.1 pc ls env st h κ := by
  have g1 : Gdk (hNew h (0, c)) (kNew κ 1 (vwN c)) := hκ.push (by simp) rfl
  obtain ⟨κ2, g2, l2, k2⟩ := call_fx hm hr (vs := [.ref (hN h)]) rfl e1 g1
  have l1 : kle κ (kNew κ 1 (vwN c)) := ⟨Nat.le_add_right _ _, Nat.le_add_right _ _, Nat.le_add_right _ _⟩
  refine ⟨κ2, g2, kle_tr l1 l2, fun G X C hE ls env st hst A => ?_⟩
  have W1 := k2 G X C hE ls env (va_rf (some (hN h)) :: st) (by rw [wds_cons]; show 1 + wds st ≤ 8; omega) A
  intro H locs ad bk cells slots hW hL hEn hV hS hn0 had hcc hsl
  have hcap : cells + 1 ≤ X.1.2.2.2.cells ∧ slots + vwN c ≤ X.1.2.2.2.slots := by
    have a1 := C.2.2.2.2.2.2.2.2.1
    have a2 := C.2.2.2.2.2.2.2.2.2.1
    have a3 := l2.1
    have a4 := l2.2.1
    have a5 := hE.1
    have a6 := hE.2.1
    simp only [kNew] at a3 a4
    omega
  refine new_row hc hty w1 w2 w3 d C hW hS hcap fun a H1 hW1 hS1 => ?_
  refine lv_dup C.1 C.2.1 d2 rfl ?_
  have agc : ∀ w, vok (hN h) w → cvv (u1 ad (2 * hN h) a) w = cvv ad w := fun w hw => by
    cases w with
    | ref b => show Value.ref (u1 ad (2 * hN h) a (2 * b)) = Value.ref (ad (2 * b)); rw [u1_ne (ne_two (hw b rfl))]
    | _ => rfl
  have up : ∀ w, vok (hN h) w → vok (hN (hNew h (0, c))) w := fun w hw b hb => Nat.lt_succ_of_lt (hw b hb)
  have W2 := W1 H1 locs (u1 ad (2 * hN h) a) bk (cells + 1) (slots + vwN c) hW1 ⟨hL.1, hL.2.1, fun k w hk => by rw [agc w (hEn w (List.mem_of_getElem? hk))]; exact hL.2.2 k w hk⟩ (fun w hw => up w (hEn w hw)) (fun w hw => by
      rcases List.mem_cons.mp hw with rfl | hw
      · exact fun b hb => by cases hb; exact Nat.lt_succ_self _
      · rcases List.mem_cons.mp hw with rfl | hw
        · exact fun b hb => by cases hb; exact Nat.lt_succ_self _
        · exact up w (hV w hw)) hS1 (Nat.le_succ_of_le hn0) (fun q hq => by rw [u1_ne (by omega)]; exact had q hq) (by simp only [kNew]; omega) (by simp only [kNew]; omega)
  have est : ([Value.ref (hN h)].reverse ++ va_rf (some (hN h)) :: st).map (cvv (u1 ad (2 * hN h) a)) = .ref a :: .ref a :: st.map (cvv ad) := by
    simp only [List.reverse_cons, List.reverse_nil, List.nil_append, List.cons_append, List.map_cons]
    congr 1
    · show Value.ref _ = _; rw [u1_eq]
    · congr 1
      · show Value.ref _ = _; rw [u1_eq]
      · exact List.map_congr_left fun w hw => agc w (hV w hw)
  rw [est] at W2
  exact W2
