/-! ===== new Row ===== -/
def QcI (G : GX) (ws : va_W) (p a : Nat) : Array Value → State → Outcome → State → Prop := va_Qv (S := Nat) (fun _ => True) (fun b t => va_P G.1 vwCl ((ws ++ [((b, Sum.inl (G.2.1 0, 16, Sum.inl (fun _ => 0))) : Nat × va_E)]).set p (a, .inr (5, [.ref b, .int 0]))) t.heap ∧ va_D (aBs G) ((ws ++ [((b, Sum.inl (G.2.1 0, 16, Sum.inl (fun _ => 0))) : Nat × va_E)]).set p (a, .inr (5, [.ref b, .int 0])))) (aBs G)
set_option maxHeartbeats 4000000 in
set_option maxRecDepth 100000 in
theorem c_rowInit (l : Launch) (G : GX) (ws : va_W) (p a : Nat) (hp : ws[p]? = some (a, .inr (5, [.null, .int 0]))) (RW : RowW) (o1 : Cond.methodLink RX5 3 objectInit ∈ GW) (o2 : Cond.instanceMethod objectInit ∈ GW) (o3 : Cond.code objectInit ⟨#[0xb1]⟩ 1 none ∈ GW) :
    Met l yX5_init (Cond.code yX5_init cX5_init 1 none :: GW) ({ frames := 1, cells := 1, slots := 16, locals := 100 } : Room) (PcW G ws [.ref a]) (QcI G ws p a) 1 16 (aBs G) := by
  refine Met.ofW (cc := cX5_init) (maxL := 1) (ret := none) (by decide) rfl ?_
  intro p' e s m args below meth c s₁ B hml hv
  obtain ⟨rfl, hP, hD, hK, hbs⟩ := hv
  obtain ⟨hc, w0, w1, wC, -⟩ := RW
  have hx := B.exec
  have hb := B.bytes
  have hr := B.returns
  have hts0 := atoms_spec (ws := Cond.code yX5_init cX5_init 1 none :: GW) B.pre
  have hts : ∀ w ∈ GW, w.before #[Value.ref a] s = true := fun w hw => hts0 w (List.mem_cons_of_mem _ hw)
  have hown : s.vm.findClass RX5 = some m.cls := findClass_of_methodNamed B.named
  have hlocks := B.notSynchronized
  have hS : va_S (aBs G) s.heap s.heap [] := va_S.rf
  have hA : ∀ q, s.heap.size ≤ q → aBs G q := fun q hq => Nat.le_trans hbs hq
  have hl := lv_entry ([.ref a]) (n := 1) (Nat.le_of_ble_eq_true rfl)
  rw [lg_entry_eq]
  generalize (lg_sl ([.ref a]) ++ List.replicate (1 - (lg_sl ([.ref a])).length) Slot.unset).toArray = ls at hl ⊢
  have hl : lv_has ls 1 [(0, .ref a)] := hl
  refine lv_aload_n hx hb dX5_init_0 rfl (lv_at hl 0 rfl) ?_
  refine W.objInit hx hb hown (hts _ o1) (hts _ o2) (hts _ o3) rfl (hl.1.trans hml.symm) rfl dX5_init_1 (Nat.le_refl 1) (by show 2 * 0 + 0 + 12 ≤ 100; decide) ?_
  refine lv_aload_n hx hb dX5_init_4 rfl (lv_at hl 0 rfl) ?_
  refine lv_bipush (v := 16) hx hb dX5_init_5 (by decide) ?_
  refine va_newa (atype := .int) (a0 := (16, .inl (fun _ => 0))) hx hb (hts _ wC.1) rfl hK.1 hP hD hS hA (fun _ => rfl) (by decide) (by decide) (by decide) (Nat.le_refl _) (by show 0 + 16 ≤ 16; decide) dX5_init_7 fun b cA H1 hK1 hP1 hD1 hS1 => ?_
  have ecA : cA = G.2.1 0 := by
    have k1 := (hK1.2 4 (cA, .int) rfl).2
    have k2 := (hK1.2 0 (G.2.1 0, .int) rfl).2
    exact Option.some.inj (Eq.trans (Eq.symm k1) k2)
  subst ecA
  have hlt : p < ws.length := (List.getElem?_eq_some_iff.mp hp).1
  refine va_put hx hb (Ts := GW) hts hc.2.1 (vwY 5) hc.2.2.1 hc.2.2.2.1 hown hK.1 hP1 hD1 hS1 p (by rw [List.getElem?_append_left hlt]; exact hp) hc.1 0 (by decide) (hts _ w0) (fun _ z => z) rfl (hc.2.2.1 0 (by decide)) (v := .ref b) rfl rfl (by simp) dX5_init_9 fun H2 l2 p2 d2 s2 => ?_
  refine lv_aload_n hx hb dX5_init_12 rfl (lv_at hl 0 rfl) ?_
  refine lv_iconst (v := 0) hx hb dX5_init_13 rfl ?_
  refine va_put hx hb (Ts := GW) hts hc.2.1 (vwY 5) hc.2.2.1 hc.2.2.2.1 hown hK.1 p2 d2 s2 p (by rw [List.getElem?_set_self (by rw [List.length_append]; omega)]) hc.1 1 (by decide) (hts _ w1) (fun _ z => z) rfl (hc.2.2.1 1 (by decide)) (v := .int 0) rfl rfl (by simp) dX5_init_14 fun H3 l3 p3 d3 s3 => ?_
  refine W.widen (k := 1) (n := 16) (by omega) (by omega) ?_
  refine W.vret hx hb hr (fun t ht _ => ⟨⟨b, rfl, trivial, ?_, ?_⟩, s3.F ht⟩) s3.2.2 dX5_init_17 hlocks
  · rw [ht]
    rw [List.set_set] at p3
    exact p3
  · rw [List.set_set] at d3
    exact d3
def newR (lim : Nat) : Ex (Option Nat) := fun _ h => some (some (hN h), hNew h (1, lim))
theorem Wd.pushR {G : GX} {h : AH} {lim : Nat} {caps ad : Nat → Nat} {bk : Nat → Nat → Int32} {ws : va_W} {pos : Nat → Nat} {H1 : Heap} {a b : Nat} (h1 : ∀ k, lvk h k → ws[pos k]? = some (enn G h caps ad bk k)) (h2 : ∀ k k', lvk h k → lvk h k' → pos k = pos k' → k = k') (b1 : ∀ q k a, hP h q k = some a → a < hN h) (b2 : ∀ q, q < hN h → (hT h q).1 = 1 → (hR h q).length ≤ caps q ∧ caps q < 2 ^ 30 ∧ ∀ i, i < (hR h q).length → bk q i = (hR h q).getD i 0) (b3 : ∀ q, hN h ≤ q → (hT h q).1 = 9)
    {ws2 : va_W} (hws : ws2 = ws ++ [((a, .inr (5, [.ref b, .int 0])) : Nat × va_E), (b, Sum.inl (G.2.1 0, 16, Sum.inl (fun _ => 0)))]) (hP1 : va_P G.1 vwCl ws2 H1) (hD1 : va_D (aBs G) ws2) : Wd G (hNew h (1, lim)) (u1 caps (hN h) 16) (u1 (u1 ad (2 * hN h) a) (2 * hN h + 1) b) (u1 bk (hN h) (fun _ => 0)) H1 := by
  subst hws
  have hag : ∀ k, k / 2 < hN h → u1 (u1 ad (2 * hN h) a) (2 * hN h + 1) b k = ad k := fun k hk => by rw [u1_ne (by omega), u1_ne (by omega)]
  have lv : ∀ k, lvk (hNew h (1, lim)) k → k = 2 * hN h ∨ k = 2 * hN h + 1 ∨ lvk h k := by
    intro k hk
    obtain ⟨k1, k2⟩ := hk
    rw [hN_new] at k1
    by_cases e : k / 2 = hN h
    · omega
    · right; right
      refine ⟨by omega, fun o => ?_⟩
      have := k2 o
      rwa [hT_new_ne e] at this
  have plt : ∀ k, lvk h k → pos k < ws.length := fun k hk => (List.getElem?_eq_some_iff.mp (h1 k hk)).1
  have nek : ∀ k, lvk h k → k ≠ 2 * hN h ∧ k ≠ 2 * hN h + 1 := fun k hk => by have := hk.1; omega
  have eT : hT (hNew h (1, lim)) (hN h) = (1, lim) := hT_new_eq
  have eR : hR (hNew h (1, lim)) (hN h) = [] := u1_eq
  have posN : ∀ k, lvk h k → u1 (u1 pos (2 * hN h) ws.length) (2 * hN h + 1) (ws.length + 1) k = pos k := fun k hk => by rw [u1_ne (nek k hk).2, u1_ne (nek k hk).1]
  have pos0 : u1 (u1 pos (2 * hN h) ws.length) (2 * hN h + 1) (ws.length + 1) (2 * hN h) = ws.length := by rw [u1_ne (by omega), u1_eq]
  have pos1 : u1 (u1 pos (2 * hN h) ws.length) (2 * hN h + 1) (ws.length + 1) (2 * hN h + 1) = ws.length + 1 := u1_eq
  refine ⟨⟨_, u1 (u1 pos (2 * hN h) ws.length) (2 * hN h + 1) (ws.length + 1), hP1, hD1, fun k hk => ?_, fun k k' hk hk' ek => ?_⟩, fun q k x hx => ?_, fun q hq hr => ?_, fun q hq => ?_⟩
  · rcases lv k hk with rfl | rfl | hk
    · rw [pos0, List.getElem?_append_right (Nat.le_refl _), Nat.sub_self, enn_main, ekk_row (by rw [eT]), eR, u1_ne (by omega), u1_eq, u1_eq]
      rfl
    · rw [pos1, List.getElem?_append_right (by omega), show ws.length + 1 - ws.length = 1 by omega, enn_arr, u1_eq, u1_eq, u1_eq]
      rfl
    · rw [posN k hk, List.getElem?_append_left (plt k hk), h1 k hk]
      congr 1
      unfold enn
      rw [hag k hk.1, ekk_push hk.1 b1 hag, u1_ne (show k / 2 ≠ hN h by have := hk.1; omega), u1_ne (show k / 2 ≠ hN h by have := hk.1; omega)]
  · rcases lv k hk with rfl | rfl | hk <;> rcases lv k' hk' with rfl | rfl | hk'
    · rfl
    · rw [pos0, pos1] at ek; omega
    · rw [pos0, posN k' hk'] at ek; have := plt k' hk'; omega
    · rw [pos0, pos1] at ek; omega
    · rfl
    · rw [pos1, posN k' hk'] at ek; have := plt k' hk'; omega
    · rw [pos0, posN k hk] at ek; have := plt k hk; omega
    · rw [pos1, posN k hk] at ek; have := plt k hk; omega
    · rw [posN k hk, posN k' hk'] at ek
      exact h2 k k' hk hk' ek
  · rw [hN_new]
    by_cases e : q = hN h
    · have e0 : hP (hNew h (1, lim)) q k = none := by rw [e]; exact congrFun (u1_eq (f := hP h)) k
      rw [e0] at hx
      cases hx
    · have e1 : hP (hNew h (1, lim)) q = hP h q := u1_ne e
      rw [e1] at hx
      exact Nat.lt_succ_of_lt (b1 q k x hx)
  · rw [hN_new] at hq
    by_cases e : q = hN h
    · subst e
      rw [eR, u1_eq, u1_eq]
      exact ⟨by decide, by decide, fun i hi => by cases hi⟩
    · have e5 : hR (hNew h (1, lim)) q = hR h q := u1_ne e
      rw [hT_new_ne e] at hr
      rw [e5, u1_ne e, u1_ne e]
      exact b2 q (by omega) hr
  · rw [hN_new] at hq
    rw [hT_new_ne (by omega)]
    exact b3 q (by omega)
theorem Gdk.pushR {h : AH} {κ : KP} {J : Nat} (hκ : Gdk h κ) (hJ : J ≤ 10) : Gdk (hNew h (1, 16 * 2 ^ J)) (u1 κ.1 (hN h) 16, κ.2.1 + 2, κ.2.2.1 + 18, κ.2.2.2 + 1) := by
  obtain ⟨h1, h2, h3, h4⟩ := hκ
  have eq1 : ∀ (F : Nat × Nat → Nat → Nat), smf (fun q => F (hT (hNew h (1, 16 * 2 ^ J)) q) (u1 κ.1 (hN h) 16 q)) (hN h) = smf (fun q => F (hT h q) (κ.1 q)) (hN h) := fun F => smf_congr _ fun q hq => by rw [hT_new_ne (by omega), u1_ne (by omega)]
  refine ⟨fun q hq hr => ?_, ?_, ?_, ?_⟩
  · rw [hN_new] at hq
    by_cases e : q = hN h
    · subst e
      rw [hT_new_eq]
      exact ⟨0, J, by show u1 κ.1 (hN h) 16 (hN h) = _; rw [u1_eq], rfl, Nat.zero_le _, hJ⟩
    · rw [hT_new_ne e] at hr ⊢
      obtain ⟨a, b, c⟩ := h1 q (by omega) hr
      exact ⟨a, b, by show u1 κ.1 (hN h) 16 q = _; rw [u1_ne e]; exact c.1, c.2⟩
  · rw [hN_new, smf]
    show κ.2.1 + 2 ≤ smf (fun q => cstC (hT (hNew h (1, 16 * 2 ^ J)) q) (u1 κ.1 (hN h) 16 q)) (hN h) + cstC (hT (hNew h (1, 16 * 2 ^ J)) (hN h)) (u1 κ.1 (hN h) 16 (hN h))
    rw [eq1 cstC, hT_new_eq, u1_eq, show cstC (1, 16 * 2 ^ J) 16 = 2 from rfl]
    omega
  · rw [hN_new, smf]
    show κ.2.2.1 + 18 ≤ smf (fun q => cstS (hT (hNew h (1, 16 * 2 ^ J)) q) (u1 κ.1 (hN h) 16 q)) (hN h) + cstS (hT (hNew h (1, 16 * 2 ^ J)) (hN h)) (u1 κ.1 (hN h) 16 (hN h))
    rw [eq1 cstS, hT_new_eq, u1_eq, show cstS (1, 16 * 2 ^ J) 16 = 18 from rfl]
    omega
  · show κ.2.2.2 + 1 = hN h + 1
    omega
set_option maxHeartbeats 1000000 in
theorem JX.newR {M : MI} {sh pc i i2 J : Nat} {nx : List Nat} (hJ : J ≤ 10) (RW : RowW) (o1 : Cond.methodLink RX5 3 objectInit ∈ GW) (o2 : Cond.instanceMethod objectInit ∈ GW) (o3 : Cond.code objectInit ⟨#[0xb1]⟩ 1 none ∈ GW) (w1 : Cond.classLink M.1 i RX5 ∈ GW) (w2 : Cond.instantiable RX5 2 ∈ GW) (w3 : Cond.initialized RX5 ∈ GW) (w4 : Cond.methodLinkNest M.1 i2 yX5_init RX11 ∈ NW) (w5 : Cond.instanceMethod yX5_init ∈ GW) (w6 : Cond.code yX5_init cX5_init 1 none ∈ GW) (hdep : 2 ≤ M.2.2.2.1) (d : decode M.2.1 pc = .ok (.new i, 3)) (d2 : decode M.2.1 (pc + 3) = .ok (.dup, 1)) (d3 : decode M.2.1 (pc + 4) = .ok (.invokespecial i2, 3)) (hsh : sh + 1 ≤ 8) : JX va_rf M sh pc (pc + 7) nx (newR (16 * 2 ^ J)) := by
  intro env h x h' e κ hκ
  cases e
  refine ⟨_, hκ.pushR hJ, ⟨Nat.le_add_right _ _, Nat.le_add_right _ _, Nat.le_add_right _ _⟩, fun G X C hE st hst A => ?_⟩
  intro H locs ls ad bk cells slots hW hL hEn hV hS hn0 had hcc hsl
  have a1 := C.2.2.2.2.2.2.2.2.1
  have a2 := C.2.2.2.2.2.2.2.2.2.1
  have a5 := hE.1
  have a6 := hE.2.1
  have hfr := C.2.2.2.2.2.2.1
  have hlo := C.2.2.2.2.2.2.2.1
  dsimp only at a5 a6
  obtain ⟨hc, -⟩ := id RW
  obtain ⟨⟨ws, pos, hP', hD, h1, h2⟩, b1, b2, b3⟩ := hW
  refine va_new (ci := 5) (fs := [.null, .int 0]) C.1 C.2.1 (Ts := GW) C.2.2.2.2.1 hc.2.1 (vwY 5) hc.2.2.1 C.2.2.2.1 (C.2.2.2.2.1 _ w1) (C.2.2.2.2.1 _ w2) (C.2.2.2.2.1 _ w3) C.2.2.2.2.2.1.1 hP' hD hS (fun q hq => Nat.le_trans C.2.2.2.2.2.2.2.2.2.2.1 hq) hc.1 (fun j hj => by
    rcases (show j = 0 ∨ j = 1 by have : j < 2 := hj; omega) with rfl | rfl <;> rfl) (by omega) (by show slots + 2 ≤ _; omega) d fun a H1 hP1 hD1 hS1 => ?_
  refine lv_dup C.1 C.2.1 d2 rfl ?_
  have hM := c_rowInit X.1.2.1 G (ws ++ [(a, .inr (5, [.null, .int 0]))]) ws.length a (by simp) RW o1 o2 o3
  have hB : va_CN X.1.2.2.2 X.2.1.1 X.2.1.2.2.1 M.1 i2 yX5_init RX11 cX5_init 1 none (Cond.code yX5_init cX5_init 1 none :: GW) ({ frames := 1, cells := 1, slots := 16, locals := 100 } : Room) 1 16 0 := va_cnB 0 C.2.2.2.2.1 (gw_in w6) rfl rfl rfl (C.2.2.2.2.2.1.2.1 _ w4) (C.2.2.2.2.1 _ w3) (by decide +kernel) ⟨by show 1 + 1 ≤ _; omega, by show 8 + (1 + 11) + 100 ≤ _; omega⟩
  refine va_callv (va_runIN (As := []) (rest := .ref a :: st.map (cvv ad)) (b := a) ⟨C.1, C.2.1, C.2.2.1, C.2.2.2.1, C.2.2.2.2.1⟩ hM ⟨hB, rfl, C.2.2.2.2.1 _ w5⟩ ⟨PcW.blind, fun U hU hw => ⟨rfl, by rw [hU]; exact hP1, hD1, by rw [hU]; exact C.2.2.2.2.2.1.next hw fun q h1 h2 => hS1.2.1 q h1 h2, by rw [hU]; exact Nat.le_trans C.2.2.2.2.2.2.2.2.2.2.1 hS1.1⟩⟩ rfl rfl hL.1 rfl (by
      show 2 * 0 + (1 + ((st.map (cvv ad)).map fun v => v.category).sum) ≤ 8
      have : wds (st.map (cvv ad)) = sh := by rw [cats_map, hst]
      unfold wds at this
      omega) d3 ⟨by omega, by show slots + 2 + 16 ≤ _; omega⟩) hS1 (fun _ _ z => z) (fun _ z => z) fun b t H2 l2 et _ _ hBB _ _ hS2 => ?_
  obtain ⟨hP2, hD2⟩ := hBB
  rw [et] at hP2
  have ews : ((ws ++ [((a, .inr (5, [.null, .int 0])) : Nat × va_E)]) ++ [((b, Sum.inl (G.2.1 0, 16, Sum.inl (fun _ => 0))) : Nat × va_E)]).set ws.length (a, .inr (5, [.ref b, .int 0])) = ws ++ [((a, .inr (5, [.ref b, .int 0])) : Nat × va_E), (b, Sum.inl (G.2.1 0, 16, Sum.inl (fun _ => 0)))] := by simp
  have hW2 := Wd.pushR (lim := 16 * 2 ^ J) h1 h2 b1 b2 b3 ews hP2 hD2
  have agc : ∀ w, vok (hN h) w → cvv (u1 (u1 ad (2 * hN h) a) (2 * hN h + 1) b) w = cvv ad w := fun w hw => by
    rw [cvv_odd]
    cases w with
    | ref x => show Value.ref (u1 ad (2 * hN h) a (2 * x)) = Value.ref (ad (2 * x)); rw [u1_ne (ne_two (hw x rfl))]
    | _ => rfl
  have up : ∀ w, vok (hN h) w → vok (hN (hNew h (1, 16 * 2 ^ J))) w := fun w hw x hx => Nat.lt_succ_of_lt (hw x hx)
  have W2 := A (pc + 7) (Or.inl rfl) H2 l2 ls _ _ (cells + 1 + 1) (slots + 2 + 16) hW2 ⟨hL.1, hL.2.1, fun k w hk => by rw [agc w (hEn w (List.mem_of_getElem? hk))]; exact hL.2.2 k w hk⟩ (fun w hw => up w (hEn w hw)) (fun w hw => by
      rcases List.mem_cons.mp hw with rfl | hw
      · exact fun x hx => by cases hx; exact Nat.lt_succ_self _
      · exact up w (hV w hw)) hS2 (Nat.le_succ_of_le hn0) (fun q hq => by rw [u1_ne (ne_odd q _), u1_ne (ne_two (Nat.lt_of_lt_of_le hq hn0))]; exact had q hq) (by dsimp only; omega) (by dsimp only; omega)
  have est : (va_rf (some (hN h)) :: st).map (cvv (u1 (u1 ad (2 * hN h) a) (2 * hN h + 1) b)) = .ref a :: st.map (cvv ad) := by
    rw [List.map_cons]
    congr 1
    · show Value.ref (u1 (u1 ad (2 * hN h) a) (2 * hN h + 1) b (2 * hN h)) = _
      rw [u1_ne (ne_odd _ _), u1_eq]
    · exact List.map_congr_left fun w hw => agc w (hV w hw)
  rw [est] at W2
  exact W2
