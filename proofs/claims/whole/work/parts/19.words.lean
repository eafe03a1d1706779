/-! ===== the words' text: its length, its letters (String.length, String.charAt) ===== -/
def wchI (g : Ex Int32) : Ex Int32 := fun env h => (g env h).bind fun r => if ¬ r.1 < 0 ∧ r.1.toNatClampNeg < 174 then some (byW.getD r.1.toNatClampNeg 0, r.2) else none
def StrF (A : Nat → Prop) (aS aV : Nat) (U : State) (H : Heap) : Prop := vk_S 1 [174] [byW] (fun _ => aS) (fun _ => aV) A U H ∧ va_Z "java/lang/String" "COMPACT_STRINGS" "Z" (.int 1) A U H ∧ va_Zq "jdk/internal/util/Preconditions" "SIOOBE_FORMATTER" "Ljava/util/function/BiFunction;" A U H
theorem StrF.next {A : Nat → Prop} {aS aV : Nat} {s U : State} {H H1 : Heap} (hW : s.WarmedH U.vm) (hq : ∀ a : Nat, a < H.size → ¬ A a → H1[a]? = H[a]?) (h : StrF A aS aV s H) : StrF A aS aV U H1 :=
  ⟨(h.1.kept hq).moved hW.alike, (h.2.1.kept hq).moved hW.alike, va_Zq.moved hW.alike (h.2.2.kept hq)⟩
theorem StrF.same {A : Nat → Prop} {aS aV : Nat} {s U : State} {H : Heap} (hv : s.vm = U.vm) (h : StrF A aS aV s H) : StrF A aS aV U H := by
  have hw : s.vm.Alike U.vm := by rw [hv]; exact Vm.Alike.refl U.vm
  exact ⟨h.1.moved hw, h.2.1.moved hw, va_Zq.moved hw h.2.2⟩
def PcS (vs : List Value) (A : Nat → Prop) (aS aV : Nat) : Array Value → State → Prop := fun a U => a = vs.toArray ∧ StrF A aS aV U U.heap
def QcS (v : Option Value) : Array Value → State → Outcome → State → Prop := fun _ st o t => o = .returned v ∧ t.heap = st.heap
def rmS (dep : Nat) : Room := { frames := dep, cells := 0, slots := 0, locals := 100 * dep }
def noF : Addr → Prop := fun _ => False
def MS0 (y : MethodName) (cc : ByteArray) (nL : Nat) (ret : Option FieldType) (dep : Nat) (vs : List Value) (A : Nat → Prop) (aS aV : Nat) (v : Option Value) : Prop := ∀ l : Launch, Met l y (Cond.code y cc nL ret :: GW) (rmS dep) (PcS vs A aS aV) (QcS v) 0 0 noF
theorem PcS.blind {vs : List Value} {A : Nat → Prop} {aS aV : Nat} : FrameBlind (PcS vs A aS aV) := fun a U g mk q => ⟨q.1, (StrF.same (s := U) (U := U.calling g mk a) (H := U.heap) rfl q.2 : StrF A aS aV (U.calling g mk a) U.heap)⟩
section
variable {p : Program} {l : Launch} {e : Env} {R : Room} {s : State} {m : MethodId} {args : Array Value} {below : List Frame} {meth : Method} {c : Code} {H : Heap} {locs : List Loc} {cells slots : Nat} {Q : State → Prop}
variable {cc cy : ByteArray} {pc : Nat} {ls : Array Slot} {rest st0 : List Value} {own : String} {i n nL nLy dep : Nat} {y : MethodName} {ret : Option FieldType} {A : Nat → Prop} {aS aV : Nat} {v : Option Value} {As : List Value}
theorem run_same {qa : Array Value} (run : va_Run p l e R s m args below meth c H locs cells slots 0 0 (F0 m pc ls st0) rest (QcS v qa) noF) (kk : W p l e R s m args below meth c H locs cells slots Q (F0 m (pc + 3) ls (v.toList ++ rest))) : W p l e R s m args below meth c H locs cells slots Q (F0 m pc ls st0) := by
  intro T hT X
  obtain ⟨v', st₀, t, T', L, h0, X', hL, e1, e2, ⟨hv, hh⟩, go⟩ := run T hT X
  cases hv
  have hLn : L = [] := by
    cases L with
    | nil => rfl
    | cons q L => exact (hL q List.mem_cons_self).elim
  subst hLn
  rw [List.append_nil] at X'
  obtain ⟨t2, a1, a2⟩ := kk T' (by rw [e1, hh, h0]) X'
  exact ⟨t2, go t2 a1, a2⟩
theorem call_strV (F : CallFix p m c cc nL s args GW own) (hM : MS0 y cy nLy ret dep (.ref aS :: As) A aS aV v) (hF : StrF A aS aV s s.heap) (hS : va_S A s.heap H locs) (w0 : Cond.code y cy nLy ret ∈ GW) (wi : Cond.initialized y.cls ∈ GW) (hd : y.cls ≠ "java/lang/invoke/MethodHandle" ∧ y.cls ≠ "java/lang/invoke/VarHandle" ∧ (parseMethodDescriptor y.desc).map (fun d => d.parameters.length) = some n) (w1 : Cond.methodLink own i y ∈ GW) (w2 : Cond.instanceMethod y ∈ GW) (w3 : Cond.selects "java/lang/String" y y ∈ GW) (hR : dep + 1 ≤ R.frames ∧ 8 + (nLy + 11) + 100 * dep ≤ R.locals) (hn : As.length = n) (hls : ls.size = nL) (hst : wds rest ≤ 8) (d : decode cc pc = .ok (.invokevirtual i, 3)) (hc : cells ≤ R.cells ∧ slots ≤ R.slots)
    (kk : W p l e R s m args below meth c H locs cells slots Q (F0 m (pc + 3) ls (v.toList ++ rest))) : W p l e R s m args below meth c H locs cells slots Q (F0 m pc ls (As.reverse ++ .ref aS :: rest)) := by
  have hts := F.2.2.2.2
  obtain ⟨cell, c1, c2, c3, c4⟩ := ((hF.1.1 0 (by decide)).1).kept hS.2.1
  have hB : CallB R s args own i y cy nLy ret (Cond.code y cy nLy ret :: GW) (rmS dep) 0 0 n := callB_of n hts (gw_in w0) rfl rfl rfl (hts _ wi) (hts _ w1) hd hR
  exact run_same (va_runV (C := "java/lang/String") (As := As) (rest := rest) F (hM l) ⟨hB, hts _ w2, hts _ w3⟩ ⟨PcS.blind, ⟨cell, c1, c2, c3⟩, fun U hU hW => ⟨rfl, by rw [hU]; exact hF.next hW hS.2.1⟩⟩ rfl hn hls rfl (by
    show 2 * 0 + _ ≤ 8
    have := hst
    unfold wds at this
    omega) d hc) kk
theorem call_strS (F : CallFix p m c cc nL s args GW own) (hM : MS0 y cy nLy ret dep As A aS aV v) (hF : StrF A aS aV s s.heap) (hS : va_S A s.heap H locs) (w0 : Cond.code y cy nLy ret ∈ GW) (wi : Cond.initialized y.cls ∈ GW) (hd : y.cls ≠ "java/lang/invoke/MethodHandle" ∧ y.cls ≠ "java/lang/invoke/VarHandle" ∧ (parseMethodDescriptor y.desc).map (fun d => d.parameters.length) = some n) (w1 : Cond.methodLink own i y ∈ GW) (w2 : Cond.static y ∈ GW) (hR : dep + 1 ≤ R.frames ∧ 8 + (nLy + 11) + 100 * dep ≤ R.locals) (hn : As.length = n) (hls : ls.size = nL) (hst : wds rest ≤ 8) (d : decode cc pc = .ok (.invokestatic i, 3)) (hc : cells ≤ R.cells ∧ slots ≤ R.slots)
    (kk : W p l e R s m args below meth c H locs cells slots Q (F0 m (pc + 3) ls (v.toList ++ rest))) : W p l e R s m args below meth c H locs cells slots Q (F0 m pc ls (As.reverse ++ rest)) := by
  have hts := F.2.2.2.2
  have hB : CallB R s args own i y cy nLy ret (Cond.code y cy nLy ret :: GW) (rmS dep) 0 0 n := callB_of n hts (gw_in w0) rfl rfl rfl (hts _ wi) (hts _ w1) hd hR
  exact run_same (va_runS (As := As) (rest := rest) F (hM l) ⟨hB, hts _ w2⟩ ⟨PcS.blind, fun U hU hW => ⟨rfl, by rw [hU]; exact hF.next hW hS.2.1⟩⟩ rfl hn hls rfl (by
    show 2 * 0 + _ ≤ 8
    have := hst
    unfold wds at this
    omega) d hc) kk
end
theorem vk_val {A : Nat → Prop} {aS aV : Nat} {U : State} {H : Heap} (h : vk_S 1 [174] [byW] (fun _ => aS) (fun _ => aV) A U H) : va_Ef 1 "java/lang/String" "value" "[B" (fun _ => .ref aV) (fun _ => aS) A U H := fun i hi => (h.1 i hi).2.2.1
theorem vk_cod {A : Nat → Prop} {aS aV : Nat} {U : State} {H : Heap} (h : vk_S 1 [174] [byW] (fun _ => aS) (fun _ => aV) A U H) : va_Ef 1 "java/lang/String" "coder" "B" (fun _ => .int 0) (fun _ => aS) A U H := fun i hi => (h.1 i hi).2.1
theorem vk_arr {n : Nat} {b : List Int32} {A : Nat → Prop} {aS aV : Nat} {U : State} {H : Heap} (h : vk_S 1 [n] [b] (fun _ => aS) (fun _ => aV) A U H) : va_T .byte aV n (fun j => .int (b.getD j 0)) A U H := (h.1 0 (by decide)).2.2.2
theorem dS_coder0 : decode cJ0_coder_7d493 0 = .ok (.getstatic 38, 3) := by decide +kernel
theorem dS_coder3 : decode cJ0_coder_7d493 3 = .ok (.ifCond .eq 10, 3) := by decide +kernel
theorem dS_coder6 : decode cJ0_coder_7d493 6 = .ok (.aload_n 0, 1) := by decide +kernel
theorem dS_coder7 : decode cJ0_coder_7d493 7 = .ok (.getfield 15, 3) := by decide +kernel
theorem dS_coder10 : decode cJ0_coder_7d493 10 = .ok (.goto 4, 3) := by decide +kernel
theorem dS_coder14 : decode cJ0_coder_7d493 14 = .ok (.ireturn, 1) := by decide +kernel
theorem cS_coder {A : Nat → Prop} {aS aV : Nat} : MS0 yJ0_coder_7d493 cJ0_coder_7d493 1 (some .byte) 0 [.ref aS] A aS aV (some (.int 0)) := by
  intro l
  refine Met.ofWF (cc := cJ0_coder_7d493) (maxL := 1) (ret := some .byte) (by decide) rfl ?_
  intro p e s m args below meth c s₁ B hml hv
  obtain ⟨rfl, hF⟩ := hv
  have hts := atoms_spec (ws := Cond.code yJ0_coder_7d493 cJ0_coder_7d493 1 (some .byte) :: GW) B.pre
  have hw : ∀ w ∈ GW, w.before _ s = true := fun w h => hts w (List.mem_cons_of_mem _ h)
  have ho : s.vm.findClass "java/lang/String" = some m.cls := findClass_of_methodNamed B.named
  rw [lg_entry_eq]
  have hl := lv_entry [Value.ref aS] (n := 1) (Nat.le_refl 1)
  generalize ((lg_sl [Value.ref aS] ++ List.replicate (1 - (lg_sl [Value.ref aS]).length) Slot.unset).toArray) = ls at hl ⊢
  refine va_gets B.exec B.bytes hF.2.1 va_S.rf ho (hw _ gw80) (fun x h => h) dS_coder0 ?_
  refine lv_if_eq B.exec B.bytes (tgt := 13) dS_coder3 (by decide) (fun z => absurd z (by decide)) (fun _ => ?_)
  refine lv_aload_n B.exec B.bytes dS_coder6 rfl (lv_at hl 0 rfl) ?_
  refine va_getX B.exec B.bytes (vk_cod hF.1) (i := 0) (by decide) va_S.rf ho (hw _ gw2042) (fun x h => h) dS_coder7 ?_
  refine lv_goto B.exec B.bytes (tgt := 14) dS_coder10 (by decide) ?_
  exact W.zret B.exec B.bytes B.returns rfl (fun t ht _ => ⟨rfl, ht⟩) (fun q hq => by cases hq) dS_coder14 B.notSynchronized
theorem dS_len0 : decode cJ0_length_8abf5 0 = .ok (.aload_n 0, 1) := by decide +kernel
theorem dS_len1 : decode cJ0_length_8abf5 1 = .ok (.getfield 9, 3) := by decide +kernel
theorem dS_len4 : decode cJ0_length_8abf5 4 = .ok (.arraylength, 1) := by decide +kernel
theorem dS_len5 : decode cJ0_length_8abf5 5 = .ok (.aload_n 0, 1) := by decide +kernel
theorem dS_len6 : decode cJ0_length_8abf5 6 = .ok (.invokevirtual 335, 3) := by decide +kernel
theorem dS_len9 : decode cJ0_length_8abf5 9 = .ok (.ishr, 1) := by decide +kernel
theorem dS_len10 : decode cJ0_length_8abf5 10 = .ok (.ireturn, 1) := by decide +kernel
theorem cS_length {A : Nat → Prop} {aS aV : Nat} : MS0 yJ0_length_8abf5 cJ0_length_8abf5 1 (some .int) 1 [.ref aS] A aS aV (some (.int (iI 174))) := by
  intro l
  refine Met.ofWF (cc := cJ0_length_8abf5) (maxL := 1) (ret := some .int) (by decide) rfl ?_
  intro p e s m args below meth c s₁ B hml hv
  obtain ⟨rfl, hF⟩ := hv
  have hts := atoms_spec (ws := Cond.code yJ0_length_8abf5 cJ0_length_8abf5 1 (some .int) :: GW) B.pre
  have hw : ∀ w ∈ GW, w.before _ s = true := fun w h => hts w (List.mem_cons_of_mem _ h)
  have ho : s.vm.findClass "java/lang/String" = some m.cls := findClass_of_methodNamed B.named
  rw [lg_entry_eq]
  have hl := lv_entry [Value.ref aS] (n := 1) (Nat.le_refl 1)
  generalize ((lg_sl [Value.ref aS] ++ List.replicate (1 - (lg_sl [Value.ref aS]).length) Slot.unset).toArray) = ls at hl ⊢
  refine lv_aload_n B.exec B.bytes dS_len0 rfl (lv_at hl 0 rfl) ?_
  refine va_getX B.exec B.bytes (vk_val hF.1) (i := 0) (by decide) va_S.rf ho (hw _ gw2041) (fun x h => h) dS_len1 ?_
  refine va_tlen B.exec B.bytes (vk_arr hF.1) va_S.rf (v := iI 174) (by decide) dS_len4 ?_
  refine lv_aload_n B.exec B.bytes dS_len5 rfl (lv_at hl 0 rfl) ?_
  refine call_strV (As := []) (rest := [.int (iI 174)]) (n := 0) ⟨B.exec, B.bytes, hml, ho, hw⟩ cS_coder hF va_S.rf gw79 gw5 ⟨by decide, by decide, by decide +kernel⟩ gw76 gw77 gw78 ⟨by decide, by decide⟩ rfl hl.1 (by decide) dS_len6 ⟨Nat.le_refl _, Nat.le_refl _⟩ ?_
  refine lv_ishr B.exec B.bytes dS_len9 ?_
  rw [show (iI 174 >>> ((0 : Int32) &&& 31)) = iI 174 by decide]
  exact W.iret B.exec B.bytes B.returns (fun t ht _ => ⟨rfl, ht⟩) (fun q hq => by cases hq) dS_len10 B.notSynchronized
theorem dS_lat0 : decode cJ0_isLatin1_aae02 0 = .ok (.getstatic 38, 3) := by decide +kernel
theorem dS_lat3 : decode cJ0_isLatin1_aae02 3 = .ok (.ifCond .eq 14, 3) := by decide +kernel
theorem dS_lat6 : decode cJ0_isLatin1_aae02 6 = .ok (.aload_n 0, 1) := by decide +kernel
theorem dS_lat7 : decode cJ0_isLatin1_aae02 7 = .ok (.getfield 15, 3) := by decide +kernel
theorem dS_lat10 : decode cJ0_isLatin1_aae02 10 = .ok (.ifCond .ne 7, 3) := by decide +kernel
theorem dS_lat13 : decode cJ0_isLatin1_aae02 13 = .ok (.iconst 1, 1) := by decide +kernel
theorem dS_lat14 : decode cJ0_isLatin1_aae02 14 = .ok (.goto 4, 3) := by decide +kernel
theorem dS_lat18 : decode cJ0_isLatin1_aae02 18 = .ok (.ireturn, 1) := by decide +kernel
theorem cS_latin {A : Nat → Prop} {aS aV : Nat} : MS0 yJ0_isLatin1_aae02 cJ0_isLatin1_aae02 1 (some .boolean) 0 [.ref aS] A aS aV (some (.int 1)) := by
  intro l
  refine Met.ofWF (cc := cJ0_isLatin1_aae02) (maxL := 1) (ret := some .boolean) (by decide) rfl ?_
  intro p e s m args below meth c s₁ B hml hv
  obtain ⟨rfl, hF⟩ := hv
  have hts := atoms_spec (ws := Cond.code yJ0_isLatin1_aae02 cJ0_isLatin1_aae02 1 (some .boolean) :: GW) B.pre
  have hw : ∀ w ∈ GW, w.before _ s = true := fun w h => hts w (List.mem_cons_of_mem _ h)
  have ho : s.vm.findClass "java/lang/String" = some m.cls := findClass_of_methodNamed B.named
  rw [lg_entry_eq]
  have hl := lv_entry [Value.ref aS] (n := 1) (Nat.le_refl 1)
  generalize ((lg_sl [Value.ref aS] ++ List.replicate (1 - (lg_sl [Value.ref aS]).length) Slot.unset).toArray) = ls at hl ⊢
  refine va_gets B.exec B.bytes hF.2.1 va_S.rf ho (hw _ gw80) (fun x h => h) dS_lat0 ?_
  refine lv_if_eq B.exec B.bytes (tgt := 17) dS_lat3 (by decide) (fun z => absurd z (by decide)) (fun _ => ?_)
  refine lv_aload_n B.exec B.bytes dS_lat6 rfl (lv_at hl 0 rfl) ?_
  refine va_getX B.exec B.bytes (vk_cod hF.1) (i := 0) (by decide) va_S.rf ho (hw _ gw2042) (fun x h => h) dS_lat7 ?_
  refine lv_if_ne B.exec B.bytes (tgt := 17) dS_lat10 (by decide) (fun z => absurd rfl z) (fun _ => ?_)
  refine lv_iconst B.exec B.bytes dS_lat13 (v := 1) rfl ?_
  refine lv_goto B.exec B.bytes (tgt := 18) dS_lat14 (by decide) ?_
  exact W.zret B.exec B.bytes B.returns rfl (fun t ht _ => ⟨rfl, ht⟩) (fun q hq => by cases hq) dS_lat18 B.notSynchronized
def yPcheck : MethodName := ⟨"jdk/internal/util/Preconditions", "checkIndex", "(IILjava/util/function/BiFunction;)I"⟩
theorem dS_pc0 : decode prog_22_method_11_code 0 = .ok (.iload_n 0, 1) := by decide +kernel
theorem dS_pc1 : decode prog_22_method_11_code 1 = .ok (.ifCond .lt 8, 3) := by decide +kernel
theorem dS_pc4 : decode prog_22_method_11_code 4 = .ok (.iload_n 0, 1) := by decide +kernel
theorem dS_pc5 : decode prog_22_method_11_code 5 = .ok (.iload_n 1, 1) := by decide +kernel
theorem dS_pc6 : decode prog_22_method_11_code 6 = .ok (.if_icmp .lt 10, 3) := by decide +kernel
theorem dS_pc16 : decode prog_22_method_11_code 16 = .ok (.iload_n 0, 1) := by decide +kernel
theorem dS_pc17 : decode prog_22_method_11_code 17 = .ok (.ireturn, 1) := by decide +kernel
theorem cS_pcheck {A : Nat → Prop} {aS aV : Nat} {i n : Int32} {o : Option Nat} (h0 : ¬ i < 0) (h1 : i < n) : MS0 yPcheck prog_22_method_11_code 3 (some .int) 0 [.int i, .int n, va_rf o] A aS aV (some (.int i)) := by
  intro l
  refine Met.ofWF (cc := prog_22_method_11_code) (maxL := 3) (ret := some .int) (by decide) rfl ?_
  intro p e s m args below meth c s₁ B hml hv
  obtain ⟨rfl, hF⟩ := hv
  rw [lg_entry_eq]
  have hl : lv_has ((lg_sl [Value.int i, .int n, va_rf o] ++ List.replicate (3 - (lg_sl [Value.int i, .int n, va_rf o]).length) Slot.unset).toArray) 3 (lv_args 0 [Value.int i, .int n, va_rf o]) := lv_entry _ (by cases o <;> exact Nat.le_refl 3)
  generalize ((lg_sl [Value.int i, .int n, va_rf o] ++ List.replicate (3 - (lg_sl [Value.int i, .int n, va_rf o]).length) Slot.unset).toArray) = ls at hl ⊢
  have l0 : ls[0]? = some (.val (.int i)) := lv_at hl 0 rfl
  have l1 : ls[1]? = some (.val (.int n)) := lv_at hl 1 rfl
  refine lv_iload_n B.exec B.bytes dS_pc0 rfl l0 ?_
  refine lv_if_lt B.exec B.bytes (tgt := 9) dS_pc1 (by decide) (fun z => absurd z h0) (fun _ => ?_)
  refine lv_iload_n B.exec B.bytes dS_pc4 rfl l0 ?_
  refine lv_iload_n B.exec B.bytes dS_pc5 rfl l1 ?_
  refine lv_icmp_lt B.exec B.bytes (tgt := 16) dS_pc6 (by decide) (fun _ => ?_) (fun z => absurd h1 z)
  refine lv_iload_n B.exec B.bytes dS_pc16 rfl l0 ?_
  exact W.iret B.exec B.bytes B.returns (fun t ht _ => ⟨rfl, ht⟩) (fun q hq => by cases hq) dS_pc17 B.notSynchronized
theorem dS_ck0 : decode cJ0_checkIndex_df160 0 = .ok (.iload_n 0, 1) := by decide +kernel
theorem dS_ck1 : decode cJ0_checkIndex_df160 1 = .ok (.iload_n 1, 1) := by decide +kernel
theorem dS_ck2 : decode cJ0_checkIndex_df160 2 = .ok (.getstatic 1053, 3) := by decide +kernel
theorem dS_ck5 : decode cJ0_checkIndex_df160 5 = .ok (.invokestatic 1059, 3) := by decide +kernel
theorem dS_ck8 : decode cJ0_checkIndex_df160 8 = .ok (.pop, 1) := by decide +kernel
theorem dS_ck9 : decode cJ0_checkIndex_df160 9 = .ok (.return_, 1) := by decide +kernel
theorem cS_check {A : Nat → Prop} {aS aV : Nat} {i n : Int32} (h0 : ¬ i < 0) (h1 : i < n) : MS0 yJ0_checkIndex_df160 cJ0_checkIndex_df160 2 none 1 [.int i, .int n] A aS aV none := by
  intro l
  refine Met.ofWF (cc := cJ0_checkIndex_df160) (maxL := 2) (ret := none) (by decide) rfl ?_
  intro p e s m args below meth c s₁ B hml hv
  obtain ⟨rfl, hF⟩ := hv
  have hts := atoms_spec (ws := Cond.code yJ0_checkIndex_df160 cJ0_checkIndex_df160 2 none :: GW) B.pre
  have hw : ∀ w ∈ GW, w.before _ s = true := fun w h => hts w (List.mem_cons_of_mem _ h)
  have ho : s.vm.findClass "java/lang/String" = some m.cls := findClass_of_methodNamed B.named
  rw [lg_entry_eq]
  have hl := lv_entry [Value.int i, .int n] (n := 2) (Nat.le_refl 2)
  generalize ((lg_sl [Value.int i, .int n] ++ List.replicate (2 - (lg_sl [Value.int i, .int n]).length) Slot.unset).toArray) = ls at hl ⊢
  obtain ⟨o, hZ⟩ : ∃ o : Option Nat, va_Z "jdk/internal/util/Preconditions" "SIOOBE_FORMATTER" "Ljava/util/function/BiFunction;" (va_rf o) A s s.heap := by
    rcases hF.2.2 with h | ⟨t, h⟩
    · exact ⟨none, h⟩
    · exact ⟨some t, h⟩
  refine lv_iload_n B.exec B.bytes dS_ck0 rfl (lv_at hl 0 rfl) ?_
  refine lv_iload_n B.exec B.bytes dS_ck1 rfl (lv_at hl 1 rfl) ?_
  refine va_gets B.exec B.bytes hZ va_S.rf ho (hw _ gw96) (fun x h => h) dS_ck2 ?_
  refine call_strS (As := [.int i, .int n, va_rf o]) (rest := []) (n := 3) (y := yPcheck) ⟨B.exec, B.bytes, hml, ho, hw⟩ (cS_pcheck h0 h1) hF va_S.rf gw100 gw7 ⟨by decide, by decide, by decide +kernel⟩ gw98 gw99 ⟨by decide, by decide⟩ rfl hl.1 (by decide) dS_ck5 ⟨Nat.le_refl _, Nat.le_refl _⟩ ?_
  refine lv_pop B.exec B.bytes dS_ck8 rfl ?_
  exact W.vret B.exec B.bytes B.returns (fun t ht _ => ⟨rfl, ht⟩) (fun q hq => by cases hq) dS_ck9 B.notSynchronized
theorem dS_lc0 : decode cJ1_charAt_3b067 0 = .ok (.iload_n 1, 1) := by decide +kernel
theorem dS_lc1 : decode cJ1_charAt_3b067 1 = .ok (.aload_n 0, 1) := by decide +kernel
theorem dS_lc2 : decode cJ1_charAt_3b067 2 = .ok (.arraylength, 1) := by decide +kernel
theorem dS_lc3 : decode cJ1_charAt_3b067 3 = .ok (.invokestatic 9, 3) := by decide +kernel
theorem dS_lc6 : decode cJ1_charAt_3b067 6 = .ok (.aload_n 0, 1) := by decide +kernel
theorem dS_lc7 : decode cJ1_charAt_3b067 7 = .ok (.iload_n 1, 1) := by decide +kernel
theorem dS_lc8 : decode cJ1_charAt_3b067 8 = .ok (.baload, 1) := by decide +kernel
theorem dS_lc9 : decode cJ1_charAt_3b067 9 = .ok (.sipush 255, 3) := by decide +kernel
theorem dS_lc12 : decode cJ1_charAt_3b067 12 = .ok (.iand, 1) := by decide +kernel
theorem dS_lc13 : decode cJ1_charAt_3b067 13 = .ok (.i2c, 1) := by decide +kernel
theorem dS_lc14 : decode cJ1_charAt_3b067 14 = .ok (.ireturn, 1) := by decide +kernel
theorem byW_ok : ∀ j : Fin 174, ((byW.getD j 0 &&& (Int16.ofInt 255).toInt32).toUInt32 % 65536).toInt32 = byW.getD j 0 ∧ narrow .char (.int (byW.getD j 0)) = .int (byW.getD j 0) := by decide +kernel
theorem idx_l174 {i : Int32} (h0 : ¬ i < 0) (h1 : i.toNatClampNeg < 174) : i < iI 174 := by
  have a : i.toNatClampNeg = i.toInt.toNat := rfl
  have b : ¬ i.toInt < 0 := fun z => h0 (Int32.lt_iff_toInt_lt.mpr (by simpa using z))
  rw [Int32.lt_iff_toInt_lt, show (iI 174).toInt = 174 by decide]
  omega
theorem cS_lchar {A : Nat → Prop} {aS aV : Nat} {i : Int32} (h0 : ¬ i < 0) (h1 : i.toNatClampNeg < 174) : MS0 yJ1_charAt_3b067 cJ1_charAt_3b067 2 (some .char) 2 [.ref aV, .int i] A aS aV (some (.int (byW.getD i.toNatClampNeg 0))) := by
  intro l
  refine Met.ofWF (cc := cJ1_charAt_3b067) (maxL := 2) (ret := some .char) (by decide) rfl ?_
  intro p e s m args below meth c s₁ B hml hv
  obtain ⟨rfl, hF⟩ := hv
  have hts := atoms_spec (ws := Cond.code yJ1_charAt_3b067 cJ1_charAt_3b067 2 (some .char) :: GW) B.pre
  have hw : ∀ w ∈ GW, w.before _ s = true := fun w h => hts w (List.mem_cons_of_mem _ h)
  have ho : s.vm.findClass "java/lang/StringLatin1" = some m.cls := findClass_of_methodNamed B.named
  rw [lg_entry_eq]
  have hl := lv_entry [Value.ref aV, .int i] (n := 2) (Nat.le_refl 2)
  generalize ((lg_sl [Value.ref aV, .int i] ++ List.replicate (2 - (lg_sl [Value.ref aV, .int i]).length) Slot.unset).toArray) = ls at hl ⊢
  obtain ⟨z1, z2⟩ := byW_ok ⟨i.toNatClampNeg, h1⟩
  refine lv_iload_n B.exec B.bytes dS_lc0 rfl (lv_at hl 1 rfl) ?_
  refine lv_aload_n B.exec B.bytes dS_lc1 rfl (lv_at hl 0 rfl) ?_
  refine va_tlen B.exec B.bytes (vk_arr hF.1) va_S.rf (v := iI 174) (by decide) dS_lc2 ?_
  refine call_strS (As := [.int i, .int (iI 174)]) (rest := []) (n := 2) ⟨B.exec, B.bytes, hml, ho, hw⟩ (cS_check h0 (idx_l174 h0 h1)) hF va_S.rf gw95 gw5 ⟨by decide, by decide, by decide +kernel⟩ gw93 gw94 ⟨by decide, by decide⟩ rfl hl.1 (by decide) dS_lc3 ⟨Nat.le_refl _, Nat.le_refl _⟩ ?_
  refine lv_aload_n B.exec B.bytes dS_lc6 rfl (lv_at hl 0 rfl) ?_
  refine lv_iload_n B.exec B.bytes dS_lc7 rfl (lv_at hl 1 rfl) ?_
  refine va_tb B.exec B.bytes (vk_arr hF.1) va_S.rf (fun z => z.elim h0 (fun q => by omega)) (v := .int (byW.getD i.toNatClampNeg 0)) rfl dS_lc8 ?_
  refine lv_sipush B.exec B.bytes dS_lc9 rfl ?_
  refine lv_iand B.exec B.bytes dS_lc12 ?_
  refine lv_i2c B.exec B.bytes dS_lc13 z1 ?_
  exact W.zret B.exec B.bytes B.returns z2 (fun t ht _ => ⟨rfl, ht⟩) (fun q hq => by cases hq) dS_lc14 B.notSynchronized
theorem dS_ca0 : decode cJ0_charAt_5068e 0 = .ok (.aload_n 0, 1) := by decide +kernel
theorem dS_ca1 : decode cJ0_charAt_5068e 1 = .ok (.invokevirtual 492, 3) := by decide +kernel
theorem dS_ca4 : decode cJ0_charAt_5068e 4 = .ok (.ifCond .eq 12, 3) := by decide +kernel
theorem dS_ca7 : decode cJ0_charAt_5068e 7 = .ok (.aload_n 0, 1) := by decide +kernel
theorem dS_ca8 : decode cJ0_charAt_5068e 8 = .ok (.getfield 9, 3) := by decide +kernel
theorem dS_ca11 : decode cJ0_charAt_5068e 11 = .ok (.iload_n 1, 1) := by decide +kernel
theorem dS_ca12 : decode cJ0_charAt_5068e 12 = .ok (.invokestatic 495, 3) := by decide +kernel
theorem dS_ca15 : decode cJ0_charAt_5068e 15 = .ok (.ireturn, 1) := by decide +kernel
theorem cS_char {A : Nat → Prop} {aS aV : Nat} {i : Int32} (h0 : ¬ i < 0) (h1 : i.toNatClampNeg < 174) : MS0 yJ0_charAt_5068e cJ0_charAt_5068e 2 (some .char) 3 [.ref aS, .int i] A aS aV (some (.int (byW.getD i.toNatClampNeg 0))) := by
  intro l
  refine Met.ofWF (cc := cJ0_charAt_5068e) (maxL := 2) (ret := some .char) (by decide) rfl ?_
  intro p e s m args below meth c s₁ B hml hv
  obtain ⟨rfl, hF⟩ := hv
  have hts := atoms_spec (ws := Cond.code yJ0_charAt_5068e cJ0_charAt_5068e 2 (some .char) :: GW) B.pre
  have hw : ∀ w ∈ GW, w.before _ s = true := fun w h => hts w (List.mem_cons_of_mem _ h)
  have ho : s.vm.findClass "java/lang/String" = some m.cls := findClass_of_methodNamed B.named
  rw [lg_entry_eq]
  have hl := lv_entry [Value.ref aS, .int i] (n := 2) (Nat.le_refl 2)
  generalize ((lg_sl [Value.ref aS, .int i] ++ List.replicate (2 - (lg_sl [Value.ref aS, .int i]).length) Slot.unset).toArray) = ls at hl ⊢
  obtain ⟨z1, z2⟩ := byW_ok ⟨i.toNatClampNeg, h1⟩
  refine lv_aload_n B.exec B.bytes dS_ca0 rfl (lv_at hl 0 rfl) ?_
  refine call_strV (As := []) (rest := []) (n := 0) ⟨B.exec, B.bytes, hml, ho, hw⟩ cS_latin hF va_S.rf gw89 gw5 ⟨by decide, by decide, by decide +kernel⟩ gw86 gw87 gw88 ⟨by decide, by decide⟩ rfl hl.1 (by decide) dS_ca1 ⟨Nat.le_refl _, Nat.le_refl _⟩ ?_
  refine lv_if_eq B.exec B.bytes (tgt := 16) dS_ca4 (by decide) (fun z => absurd z (by decide)) (fun _ => ?_)
  refine lv_aload_n B.exec B.bytes dS_ca7 rfl (lv_at hl 0 rfl) ?_
  refine va_getX B.exec B.bytes (vk_val hF.1) (i := 0) (by decide) va_S.rf ho (hw _ gw2041) (fun x h => h) dS_ca8 ?_
  refine lv_iload_n B.exec B.bytes dS_ca11 rfl (lv_at hl 1 rfl) ?_
  refine call_strS (As := [.ref aV, .int i]) (rest := []) (n := 2) ⟨B.exec, B.bytes, hml, ho, hw⟩ (cS_lchar h0 h1) hF va_S.rf gw92 gw6 ⟨by decide, by decide, by decide +kernel⟩ gw90 gw91 ⟨by decide, by decide⟩ rfl hl.1 (by decide) dS_ca12 ⟨Nat.le_refl _, Nat.le_refl _⟩ ?_
  exact W.zret B.exec B.bytes B.returns z2 (fun t ht _ => ⟨rfl, ht⟩) (fun q hq => by cases hq) dS_ca15 B.notSynchronized
/-- what a state gives of the text -/
theorem SFk.str {G : GX} {U : State} {H : Heap} (h : SFk G U H) : ∃ a b, vk_R RX4 kTW txW a U ∧ StrF (aBs G) a b U H := by
  obtain ⟨-, -, -, ⟨a, b, r1, r2⟩, c1, c2⟩ := h
  exact ⟨a, b, r1, r2, c1, c2⟩
theorem JX.wlen {M : MI} {sh pc : Nat} {nx : List Nat} (hM : M.1 = RX4) (hdep : 7 ≤ M.2.2.2.1) (hsh : sh ≤ 8) (d : decode M.2.1 pc = .ok (.ldc 67, 2)) (d2 : decode M.2.1 (pc + 2) = .ok (.invokevirtual 69, 3)) : JX Value.int M sh pc (pc + 5) nx (ciI (iI 174)) := by
  intro env h x h' e κ hκ
  have e2 : some (iI 174, h) = some (x, h') := e
  have e3 := Option.some.inj e2
  obtain ⟨rfl, rfl⟩ : iI 174 = x ∧ h = h' := ⟨congrArg Prod.fst e3, congrArg Prod.snd e3⟩
  refine ⟨κ, hκ, kle_rf κ, fun G X C hE st hst A => ?_⟩
  intro H locs ls ad bk cells slots hW hL hEn hV hS hn0 had hcc hsl
  obtain ⟨a, b, r1, hF⟩ := C.2.2.2.2.2.1.2.2.2.str
  have ho : X.2.1.1.vm.findClass RX4 = some X.2.1.2.1.cls := by rw [← hM]; exact C.2.2.2.1
  have r7 := C.2.2.2.2.2.2.1
  have r8 := C.2.2.2.2.2.2.2.1
  have a1 := C.2.2.2.2.2.2.2.2.1
  have a2 := C.2.2.2.2.2.2.2.2.2.1
  have b1 := hE.1
  have b2 := hE.2.1
  refine va_ldcS C.1 C.2.1 ho r1 d ?_
  refine call_strV (As := []) (rest := st.map (cvv ad)) (n := 0) (own := RX4) ⟨C.1, C.2.1, C.2.2.1, ho, C.2.2.2.2.1⟩ cS_length hF hS gw75 gw5 ⟨by decide, by decide, by decide +kernel⟩ gw72 gw73 gw74 ⟨by omega, by omega⟩ rfl hL.1 (by rw [cats_map, hst]; exact hsh) d2 ⟨by omega, by omega⟩ ?_
  exact A (pc + 5) (Or.inl rfl) H locs ls ad bk cells slots hW hL hEn (fun v hv => by
    rcases List.mem_cons.mp hv with rfl | hv
    · exact fun q hq => by cases hq
    · exact hV v hv) hS hn0 had hcc hsl
theorem JX.wch {M : MI} {sh pc j : Nat} {nx : List Nat} {k : Fin 4} (hk : (k : Nat) = j) (hM : M.1 = RX4) (hdep : 7 ≤ M.2.2.2.1) (hsh : sh ≤ 8) (d : decode M.2.1 pc = .ok (.ldc 67, 2)) (d1 : decode M.2.1 (pc + 2) = .ok (.iload_n k, 1)) (d2 : decode M.2.1 (pc + 3) = .ok (.invokevirtual 75, 3)) : JX Value.int M sh pc (pc + 6) nx (wchI (lvI j)) := by
  intro env h x h' e κ hκ
  obtain ⟨⟨i, h1⟩, e1, e⟩ := Option.bind_eq_some_iff.mp e
  dsimp only at e
  split at e
  · rename_i hi
    rw [Option.some.injEq, Prod.mk.injEq] at e
    obtain ⟨rfl, rfl⟩ := e
    unfold lvI at e1
    split at e1
    · rename_i y ey
      cases e1
      refine ⟨κ, hκ, kle_rf κ, fun G X C hE st hst A => ?_⟩
      intro H locs ls ad bk cells slots hW hL hEn hV hS hn0 had hcc hsl
      obtain ⟨a, b, r1, hF⟩ := C.2.2.2.2.2.1.2.2.2.str
      have ho : X.2.1.1.vm.findClass RX4 = some X.2.1.2.1.cls := by rw [← hM]; exact C.2.2.2.1
      have r7 := C.2.2.2.2.2.2.1
      have r8 := C.2.2.2.2.2.2.2.1
      have a1 := C.2.2.2.2.2.2.2.2.1
      have a2 := C.2.2.2.2.2.2.2.2.2.1
      have b1 := hE.1
      have b2 := hE.2.1
      refine va_ldcS C.1 C.2.1 ho r1 d ?_
      refine lv_iload_n C.1 C.2.1 d1 hk (hL.2.2 _ _ ey) ?_
      refine call_strV (As := [.int i]) (rest := st.map (cvv ad)) (n := 1) (own := RX4) ⟨C.1, C.2.1, C.2.2.1, ho, C.2.2.2.2.1⟩ (cS_char hi.1 hi.2) hF hS gw85 gw5 ⟨by decide, by decide, by decide +kernel⟩ gw82 gw83 gw84 ⟨by omega, by omega⟩ rfl hL.1 (by rw [cats_map, hst]; exact hsh) d2 ⟨by omega, by omega⟩ ?_
      exact A (pc + 6) (Or.inl rfl) H locs ls ad bk cells slots hW hL hEn (fun v hv => by
        rcases List.mem_cons.mp hv with rfl | hv
        · exact fun q hq => by cases hq
        · exact hV v hv) hS hn0 had hcc hsl
    · cases e1
  · cases e
