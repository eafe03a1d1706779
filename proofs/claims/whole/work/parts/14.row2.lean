/-! ===== Arrays.copyOf(int[], int), Row.add, Row.copyFrom, new Row ===== -/
/-- a start over a list of cells -/
def PcW (G : GX) (ws : va_W) (av : List Value) : Array Value → State → Prop := fun a U => a = av.toArray ∧ va_P G.1 vwCl ws U.heap ∧ va_D (aBs G) ws ∧ KKx G U U.heap ∧ G.2.2 ≤ U.heap.size
theorem PcW.blind {G : GX} {ws : va_W} {av : List Value} : FrameBlind (PcW G ws av) := fun a U g mk q => ⟨q.1, q.2.1, q.2.2.1, (KKx.same (s := U) (U := U.calling g mk a) (H := U.heap) rfl q.2.2.2.1 : KKx G (U.calling g mk a) U.heap), q.2.2.2.2⟩
def QcW (G : GX) (ws : va_W) (N2 : Nat) (f : Nat → Int32) : Array Value → State → Outcome → State → Prop := va_Qr (S := Unit) (fun _ => True) (fun _ b t => va_P G.1 vwCl (ws ++ [((b, Sum.inl (G.2.1 0, N2, Sum.inl f)) : Nat × va_E)]) t.heap ∧ va_D (aBs G) (ws ++ [((b, Sum.inl (G.2.1 0, N2, Sum.inl f)) : Nat × va_E)])) (aBs G)
set_option maxHeartbeats 4000000 in
set_option maxRecDepth 100000 in
theorem c_copyOf (l : Launch) (G : GX) (ws : va_W) (p a n N2 : Nat) (f : Nat → Int32) (hp : ws[p]? = some (a, .inl (G.2.1 0, n, .inl f))) (hn : n < N2) (hN2 : N2 ≤ 65536)
    (w1 : Cond.arrayClass .int ∈ GW) (w2 : Cond.methodLink RJ7 304 Lib.Math.min.name ∈ GW) (w3 : Cond.static Lib.Math.min.name ∈ GW) (w4 : Cond.initialized "java/lang/Math" ∈ GW) (w5 : Cond.code Lib.Math.min.name Lib.Math.min.code 2 (some .int) ∈ GW) (w6 : Cond.methodLink RJ7 150 arraycopyName ∈ GW) (w7 : Cond.native arraycopyName ∈ GW) (w8 : Cond.static arraycopyName ∈ GW) (w9 : Cond.initialized "java/lang/System" ∈ GW) :
    Met l yJ7_copyOf_59c91 (Cond.code yJ7_copyOf_59c91 cJ7_copyOf_59c91 3 (some (.array .int)) :: GW) ({ frames := 1, cells := 1, slots := N2, locals := 100 } : Room) (PcW G ws [.ref a, .int (nI N2)]) (QcW G ws N2 (va_cpy f (fun _ => 0) 0 0 n)) 1 N2 (aBs G) := by
  refine Met.ofW (cc := cJ7_copyOf_59c91) (maxL := 3) (ret := some (.array .int)) (by decide) rfl ?_
  intro p' e s m args below meth c s₁ B hml hv
  obtain ⟨rfl, hP, hD, hK, hbs⟩ := hv
  have hx := B.exec
  have hb := B.bytes
  have hr := B.returns
  have hts0 := atoms_spec (ws := Cond.code yJ7_copyOf_59c91 cJ7_copyOf_59c91 3 (some (.array .int)) :: GW) B.pre
  have hts : ∀ w ∈ GW, w.before #[Value.ref a, Value.int (nI N2)] s = true := fun w hw => hts0 w (List.mem_cons_of_mem _ hw)
  have hown : s.vm.findClass RJ7 = some m.cls := findClass_of_methodNamed B.named
  have hlocks := B.notSynchronized
  have hS : va_S (aBs G) s.heap s.heap [] := va_S.rf
  have hA : ∀ q, s.heap.size ≤ q → aBs G q := fun q hq => Nat.le_trans hbs hq
  have hl := lv_entry ([.ref a, .int (nI N2)]) (n := 3) (Nat.le_of_ble_eq_true rfl)
  rw [lg_entry_eq]
  generalize (lg_sl ([.ref a, .int (nI N2)]) ++ List.replicate (3 - (lg_sl ([.ref a, .int (nI N2)])).length) Slot.unset).toArray = ls at hl ⊢
  have hl : lv_has ls 3 [(0, .ref a), (1, .int (nI N2))] := hl
  refine lv_iload_n hx hb dJ7_copyOf_59c91_0 rfl (lv_at hl 1 rfl) ?_
  refine lv_aload_n hx hb dJ7_copyOf_59c91_1 rfl (lv_at hl 0 rfl) ?_
  refine va_alen (v := nI n) hx hb hK.1 hP p 0 hp rfl rfl dJ7_copyOf_59c91_2 ?_
  refine lv_icmp_ne (tgt := 14) hx hb dJ7_copyOf_59c91_3 (by decide) (fun _ => ?_) (fun q => absurd ((nI_eq (a := N2) (b := n) (by omega) (by omega)).mp q) (by omega))
  refine lv_iload_n hx hb dJ7_copyOf_59c91_14 rfl (lv_at hl 1 rfl) ?_
  refine va_newa (atype := .int) (a0 := (N2, .inl (fun _ => 0))) hx hb (hts _ w1) rfl hK.1 hP hD hS hA (fun _ => rfl) (nI_pos (by omega)) (nI_clamp (by omega)) (by show N2 * 4 ≤ _; omega) (Nat.le_refl _) (by show 0 + N2 ≤ N2; omega) dJ7_copyOf_59c91_15 fun b cA H1 hK1 hP1 hD1 hS1 => ?_
  have ecA : cA = G.2.1 0 := by
    have k1 := (hK1.2 4 (cA, .int) rfl).2
    have k2 := (hK1.2 0 (G.2.1 0, .int) rfl).2
    exact Option.some.inj (Eq.trans (Eq.symm k1) k2)
  subst ecA
  refine lv_astore_n (lv' := [(2, .ref b), (0, .ref a), (1, .int (nI N2))]) hx hb dJ7_copyOf_59c91_17 rfl hl (by decide) rfl (fun ls hl => ?_)
  refine lv_aload_n hx hb dJ7_copyOf_59c91_18 rfl (lv_at hl 1 rfl) ?_
  refine lv_iconst (v := 0) hx hb dJ7_copyOf_59c91_19 rfl ?_
  refine lv_aload_n hx hb dJ7_copyOf_59c91_20 rfl (lv_at hl 0 rfl) ?_
  refine lv_iconst (v := 0) hx hb dJ7_copyOf_59c91_21 rfl ?_
  refine lv_aload_n hx hb dJ7_copyOf_59c91_22 rfl (lv_at hl 1 rfl) ?_
  have hlt : p < ws.length := (List.getElem?_eq_some_iff.mp hp).1
  have hp1 : (ws ++ [(b, (.inl (G.2.1 0, N2, .inl (fun _ => 0)) : va_E))])[p]? = some (a, .inl (G.2.1 0, n, .inl f)) := by rw [List.getElem?_append_left hlt]; exact hp
  have hq1 : (ws ++ [(b, (.inl (G.2.1 0, N2, .inl (fun _ => 0)) : va_E))])[ws.length]? = some (b, .inl (G.2.1 0, N2, .inl (fun _ => 0))) := by simp
  refine va_alen (v := nI n) hx hb hK.1 hP1 p 0 hp1 rfl rfl dJ7_copyOf_59c91_23 ?_
  refine lv_iload_n hx hb dJ7_copyOf_59c91_24 rfl (lv_at hl 2 rfl) ?_
  have hmlS : c.maxLocals = ls.size := hml.trans hl.1.symm
  refine va_mmin hx hb hmlS hown (hts _ w2) (hts _ w3) (hts _ w4) (hts _ w5) (Nat.le_refl 1) (by show 4 + 13 ≤ 100; decide) (by show 0 + 1 ≤ 1; decide) (by show 0 + N2 ≤ N2; omega) dJ7_copyOf_59c91_25 ?_
  rw [if_neg (nI_nlt (by omega) (by omega))]
  refine va_copyi hx hb hmlS hown (hts _ w6) (hts _ w7) (hts _ w8) (hts _ w9) hK.1 hP1 hD1 hS1 p ws.length 0 0 hp1 hq1 rfl rfl rfl (sp := 0) (dp := 0) (n := nI n) (by decide) (by decide) (nI_pos (by omega)) (by rw [nI_clamp (by omega)]; show 0 + n ≤ n; omega) (by rw [nI_clamp (by omega)]; show 0 + n ≤ N2; omega) (fun _ _ => rfl) (Nat.le_refl 1) (by show _ ≤ 100; decide) dJ7_copyOf_59c91_28 fun H2 l2 hP2 hD2 hS2 => ?_
  rw [nI_clamp (show n < 2 ^ 31 by omega)] at hP2 hD2
  refine lv_aload_n hx hb dJ7_copyOf_59c91_31 rfl (lv_at hl 0 rfl) ?_
  refine W.widen (k := 1) (n := N2) (by omega) (by omega) ?_
  have es : (ws ++ [(b, (.inl (G.2.1 0, N2, .inl (fun _ => 0)) : va_E))]).set ws.length (b, .inl (G.2.1 0, N2, .inl (va_cpy f (fun _ => 0) 0 0 n))) = ws ++ [(b, .inl (G.2.1 0, N2, .inl (va_cpy f (fun _ => 0) 0 0 n)))] := by simp
  refine W.aret hx hb hr (Or.inr ⟨_, rfl⟩) (Or.inr ⟨_, rfl⟩) (fun t ht _ => ⟨⟨(), b, rfl, trivial, ?_, ?_⟩, hS2.F ht⟩) hS2.2.2 dJ7_copyOf_59c91_32 hlocks
  · rw [ht, ← es]; exact hP2
  · rw [← es]; exact hD2
/-! smf -/
theorem smf_up {f g : Nat → Nat} {q : Nat} : ∀ n, q < n → (∀ a, a ≠ q → g a = f a) → smf g n + f q = smf f n + g q := by
  intro n
  induction n with
  | zero => intro h; omega
  | succ n ih =>
    intro hq ho
    rw [smf, smf]
    by_cases e : n = q
    · subst e
      rw [smf_congr n (f := g) (g := f) (fun a ha => ho a (by omega))]
      omega
    · have := ih (by omega) ho
      rw [ho n e]
      omega
theorem Gdk.grow {h h' : AH} {κ : KP} {q c s : Nat} (hκ : Gdk h κ) (hq : q < hN h) (ht : (hT h q).1 = 1) (hn : hN h' = hN h) (hT' : hT h' = hT h) {j J : Nat} (hc : c = 16 * 2 ^ j) (hJ : (hT h q).2 = 16 * 2 ^ J) (hjJ : j ≤ J) (hJ10 : J ≤ 10) (h2 : 2 * κ.1 q ≤ c) (hs : s ≤ c) : Gdk h' (u1 κ.1 q c, κ.2.1 + 1, κ.2.2.1 + s, κ.2.2.2) := by
  obtain ⟨h1, hC, hS, h4⟩ := hκ
  obtain ⟨j0, J0, e0, -⟩ := h1 q hq ht
  have hp0 : 0 < 2 ^ j0 := Nat.pow_pos (by decide)
  refine ⟨fun q' hq' hr' => ?_, ?_, ?_, by rw [hn]; exact h4⟩
  · rw [hT'] at hr' ⊢
    rw [hn] at hq'
    by_cases e : q' = q
    · subst e
      exact ⟨j, J, by show u1 κ.1 q' c q' = _; rw [u1_eq, hc], hJ, hjJ, hJ10⟩
    · obtain ⟨a, b, c1⟩ := h1 q' hq' hr'
      exact ⟨a, b, by show u1 κ.1 q c q' = _; rw [u1_ne e]; exact c1.1, c1.2⟩
  · rw [hn, hT']
    have up := smf_up (f := fun a => cstC (hT h a) (κ.1 a)) (g := fun a => cstC (hT h a) (u1 κ.1 q c a)) (hN h) hq (fun a ha => by show cstC _ _ = cstC _ _; rw [u1_ne ha])
    try dsimp only at up
    rw [u1_eq, show cstC (hT h q) (κ.1 q) = 1 + κ.1 q / 16 by simp [cstC, ht], show cstC (hT h q) c = 1 + c / 16 by simp [cstC, ht]] at up
    show κ.2.1 + 1 ≤ smf (fun a => cstC (hT h a) (u1 κ.1 q c a)) (hN h)
    have : κ.1 q / 16 + 1 ≤ c / 16 := by omega
    omega
  · rw [hn, hT']
    have up := smf_up (f := fun a => cstS (hT h a) (κ.1 a)) (g := fun a => cstS (hT h a) (u1 κ.1 q c a)) (hN h) hq (fun a ha => by show cstS _ _ = cstS _ _; rw [u1_ne ha])
    try dsimp only at up
    rw [u1_eq, show cstS (hT h q) (κ.1 q) = 2 + (2 * κ.1 q - 16) by simp [cstS, ht], show cstS (hT h q) c = 2 + (2 * c - 16) by simp [cstS, ht]] at up
    show κ.2.2.1 + s ≤ smf (fun a => cstS (hT h a) (u1 κ.1 q c a)) (hN h)
    omega
/-- the ints of a Row are now another array, at the end of the list -/
theorem Wd.swap {G : GX} {h : AH} {q : Nat} {caps ad : Nat → Nat} {bk : Nat → Nat → Int32} {ws : va_W} {pos : Nat → Nat} {H1 : Heap} {b N2 : Nat} {f : Nat → Int32} (h1 : ∀ k, lvk h k → ws[pos k]? = some (enn G h caps ad bk k)) (h2 : ∀ k k', lvk h k → lvk h k' → pos k = pos k' → k = k') (b1 : ∀ q k a, hP h q k = some a → a < hN h) (b2 : ∀ q, q < hN h → (hT h q).1 = 1 → (hR h q).length ≤ caps q ∧ caps q < 2 ^ 30 ∧ ∀ i, i < (hR h q).length → bk q i = (hR h q).getD i 0) (b3 : ∀ q, hN h ≤ q → (hT h q).1 = 9) (hq : q < hN h) (ht : (hT h q).1 = 1)
    {xs : List Int32} (hxl : xs.length = (hR h q).length) (hl : xs.length ≤ N2) (hN2 : N2 < 2 ^ 30) (hf : ∀ i, i < xs.length → f i = xs.getD i 0)
    (hP1 : va_P G.1 vwCl ((ws ++ [((b, Sum.inl (G.2.1 0, N2, Sum.inl f)) : Nat × va_E)]).set (pos (2 * q)) (ad (2 * q), .inr (5, [.ref b, .int (nI (hR h q).length)]))) H1) (hD1 : va_D (aBs G) ((ws ++ [((b, Sum.inl (G.2.1 0, N2, Sum.inl f)) : Nat × va_E)]).set (pos (2 * q)) (ad (2 * q), .inr (5, [.ref b, .int (nI (hR h q).length)])))) : Wd G (sR h q xs) (u1 caps q N2) (u1 ad (2 * q + 1) b) (u1 bk q f) H1 := by
  have plt : ∀ k, lvk h k → pos k < ws.length := fun k hk => (List.getElem?_eq_some_iff.mp (h1 k hk)).1
  have m0 := lvk_main hq
  have eR : hR (sR h q xs) q = xs := u1_eq
  have adm : ∀ a, u1 ad (2 * q + 1) b (2 * a) = ad (2 * a) := fun a => u1_ne (by omega)
  have efl : ∀ q' c, flds (sR h q xs) (u1 ad (2 * q + 1) b) q' c = flds h ad q' c := fun q' c => by
    unfold flds
    congr 1
    funext k
    show (if fkd (vwY c k) = 0 then _ else if fkd (vwY c k) = 1 then _ else va_rf ((hP h q' k).map (fun a => u1 ad (2 * q + 1) b (2 * a)))) = _
    simp only [adm]
    rfl
  have ek : ∀ q', q' ≠ q → ekk G (sR h q xs) (u1 ad (2 * q + 1) b) q' = ekk G h ad q' := fun q' hne => by
    have e5 : hR (sR h q xs) q' = hR h q' := u1_ne hne
    unfold ekk
    rw [efl, e5, u1_ne (show 2 * q' + 1 ≠ 2 * q + 1 by omega)]
    simp only [adm]
    rfl
  refine ⟨⟨_, u1 pos (2 * q + 1) ws.length, hP1, hD1, fun k hk => ?_, fun k k' hk hk' ek' => ?_⟩, b1, fun q' hq' hr' => ?_, b3⟩
  · have hk : lvk h k := hk
    by_cases e1 : k = 2 * q + 1
    · subst e1
      have := plt _ m0
      rw [u1_eq, List.getElem?_set_ne (by omega), List.getElem?_append_right (Nat.le_refl _), Nat.sub_self, enn_arr, u1_eq, u1_eq, u1_eq]
      rfl
    · rw [u1_ne e1]
      by_cases e2 : k = 2 * q
      · subst e2
        have hlt := plt _ hk
        rw [List.getElem?_set_self (by rw [List.length_append]; omega), enn_main, adm, ekk_row (by exact ht), eR, u1_eq, hxl]
      · rw [List.getElem?_set_ne (fun z => e2 (h2 _ _ m0 hk z).symm), List.getElem?_append_left (plt k hk), h1 k hk]
        congr 1
        unfold enn
        rw [u1_ne e1]
        by_cases h0 : k % 2 = 0
        · rw [if_pos h0, if_pos h0, ek (k / 2) (by omega)]
        · rw [if_neg h0, if_neg h0, u1_ne (show k / 2 ≠ q by omega), u1_ne (show k / 2 ≠ q by omega)]
  · have hk : lvk h k := hk
    have hk' : lvk h k' := hk'
    have pk := plt k hk
    have pk' := plt k' hk'
    by_cases e1 : k = 2 * q + 1 <;> by_cases e2 : k' = 2 * q + 1
    · omega
    · rw [e1, u1_eq, u1_ne e2] at ek'; omega
    · rw [e2, u1_eq, u1_ne e1] at ek'; omega
    · rw [u1_ne e1, u1_ne e2] at ek'
      exact h2 k k' hk hk' ek'
  · by_cases eq : q' = q
    · subst eq
      rw [eR, u1_eq, u1_eq]
      exact ⟨hl, hN2, hf⟩
    · have e5 : hR (sR h q xs) q' = hR h q' := u1_ne eq
      rw [e5, u1_ne eq, u1_ne eq]
      exact b2 q' hq' hr'
