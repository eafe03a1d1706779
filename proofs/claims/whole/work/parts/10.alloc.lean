/-! ===== making ===== -/
theorem ne_two {b n : Nat} (h : b < n) : 2 * b ≠ 2 * n := by omega
theorem hN_new (h : AH) (t : Nat × Nat) : hN (hNew h t) = hN h + 1 := rfl
theorem hT_new_ne {h : AH} {t : Nat × Nat} {q : Nat} (hq : q ≠ hN h) : hT (hNew h t) q = hT h q := u1_ne hq
theorem hT_new_eq {h : AH} {t : Nat × Nat} : hT (hNew h t) (hN h) = t := u1_eq
theorem ekk_push {G : GX} {h : AH} {t : Nat × Nat} {ad ad' : Nat → Nat} {q : Nat} (hq : q < hN h) (hr : ∀ q k a, hP h q k = some a → a < hN h) (ha : ∀ k, k / 2 < hN h → ad' k = ad k) : ekk G (hNew h t) ad' q = ekk G h ad q := by
  have hne : q ≠ hN h := by omega
  have e1 : hT (hNew h t) q = hT h q := hT_new_ne hne
  have e2 : hI (hNew h t) q = hI h q := u1_ne hne
  have e3 : hL (hNew h t) q = hL h q := u1_ne hne
  have e4 : hP (hNew h t) q = hP h q := u1_ne hne
  have e5 : hR (hNew h t) q = hR h q := u1_ne hne
  have em : ∀ k, (hP h q k).map (fun a => ad' (2 * a)) = (hP h q k).map (fun a => ad (2 * a)) := fun k => by
    cases hp : hP h q k with
    | none => rfl
    | some a => show some (ad' (2 * a)) = some (ad (2 * a)); rw [ha (2 * a) (by have := hr q k a hp; omega)]
  have hf : ∀ c, flds (hNew h t) ad' q c = flds h ad q c := fun c => by
    unfold flds
    congr 1
    funext k
    simp only [fvl, e2, e3, e4, em]
  unfold ekk
  rw [e1, e2, e3, e4, e5, hf, ha (2 * q + 1) (by omega)]
  simp only [em]
theorem Wd.push {G : GX} {h : AH} {t : Nat × Nat} {caps ad : Nat → Nat} {bk : Nat → Nat → Int32} {ws : va_W} {pos : Nat → Nat} {H1 : Heap} {a : Nat} {e' : va_E} (h1 : ∀ k, lvk h k → ws[pos k]? = some (enn G h caps ad bk k)) (h2 : ∀ k k', lvk h k → lvk h k' → pos k = pos k' → k = k') (b1 : ∀ q k a, hP h q k = some a → a < hN h) (b2 : ∀ q, q < hN h → (hT h q).1 = 1 → (hR h q).length ≤ caps q ∧ caps q < 2 ^ 30 ∧ ∀ i, i < (hR h q).length → bk q i = (hR h q).getD i 0) (b3 : ∀ q, hN h ≤ q → (hT h q).1 = 9)
    (ht1 : t.1 ≠ 1) (hP1 : va_P G.1 vwCl (ws ++ [(a, e')]) H1) (hD1 : va_D (aBs G) (ws ++ [(a, e')])) (he : ekk G (hNew h t) (u1 ad (2 * hN h) a) (hN h) = e') : Wd G (hNew h t) caps (u1 ad (2 * hN h) a) bk H1 := by
  have hag : ∀ k, k / 2 < hN h → u1 ad (2 * hN h) a k = ad k := fun k hk => u1_ne (by omega)
  have lv : ∀ k, lvk (hNew h t) k → k = 2 * hN h ∨ lvk h k := by
    intro k hk
    obtain ⟨k1, k2⟩ := hk
    rw [hN_new] at k1
    by_cases e : k / 2 = hN h
    · rw [e, hT_new_eq] at k2
      left
      by_cases o : k % 2 = 1
      · exact absurd (k2 o) ht1
      · omega
    · right
      refine ⟨by omega, fun o => ?_⟩
      have := k2 o
      rwa [hT_new_ne e] at this
  have plt : ∀ k, lvk h k → pos k < ws.length := fun k hk => (List.getElem?_eq_some_iff.mp (h1 k hk)).1
  have nlv : ¬ lvk h (2 * hN h) := fun z => by have := z.1; omega
  have nek : ∀ k, lvk h k → k ≠ 2 * hN h := fun k hk z => nlv (z ▸ hk)
  refine ⟨⟨_, u1 pos (2 * hN h) ws.length, hP1, hD1, fun k hk => ?_, fun k k' hk hk' ek => ?_⟩, fun q k x hx => ?_, fun q hq hr => ?_, fun q hq => ?_⟩
  · rcases lv k hk with rfl | hk
    · rw [u1_eq, List.getElem?_append_right (Nat.le_refl _), Nat.sub_self, enn_main, he, u1_eq]
      rfl
    · have hne : k ≠ 2 * hN h := fun z => nlv (z ▸ hk)
      rw [u1_ne hne, List.getElem?_append_left (plt k hk), h1 k hk]
      congr 1
      unfold enn
      rw [hag k hk.1, ekk_push hk.1 b1 hag]
  · rcases lv k hk with rfl | hk <;> rcases lv k' hk' with rfl | hk'
    · rfl
    · rw [u1_eq, u1_ne (nek k' hk')] at ek
      have := plt k' hk'
      omega
    · rw [u1_eq, u1_ne (nek k hk)] at ek
      have := plt k hk
      omega
    · rw [u1_ne (nek k hk), u1_ne (nek k' hk')] at ek
      exact h2 k k' hk hk' ek
  · rw [hN_new]
    by_cases e : q = hN h
    · have e0 : hP (hNew h t) q k = none := by rw [e]; exact congrFun (u1_eq (f := hP h)) k
      rw [e0] at hx
      cases hx
    · have e1 : hP (hNew h t) q = hP h q := u1_ne e
      rw [e1] at hx
      exact Nat.lt_succ_of_lt (b1 q k x hx)
  · rw [hN_new] at hq
    by_cases e : q = hN h
    · rw [e, hT_new_eq] at hr
      exact absurd hr ht1
    · have e5 : hR (hNew h t) q = hR h q := u1_ne e
      rw [hT_new_ne e] at hr
      rw [e5]
      exact b2 q (by omega) hr
  · rw [hN_new] at hq
    rw [hT_new_ne (by omega)]
    exact b3 q (by omega)
theorem smf_congr {f g : Nat → Nat} : ∀ n, (∀ q, q < n → f q = g q) → smf f n = smf g n := by
  intro n
  induction n with
  | zero => intro _; rfl
  | succ n ih => intro hq; rw [smf, smf, ih (fun q h => hq q (by omega)), hq n (by omega)]
def kNew (κ : KP) (n s : Nat) : KP := (κ.1, κ.2.1 + n, κ.2.2.1 + s, κ.2.2.2 + 1)
theorem Gdk.push {h : AH} {κ : KP} {t : Nat × Nat} (hκ : Gdk h κ) (ht1 : t.1 ≠ 1) {s : Nat} (hs : s = cstS t 0) : Gdk (hNew h t) (kNew κ 1 s) := by
  obtain ⟨h1, h2, h3, h4⟩ := hκ
  have eq1 : ∀ (F : Nat × Nat → Nat → Nat), smf (fun q => F (hT (hNew h t) q) (κ.1 q)) (hN h) = smf (fun q => F (hT h q) (κ.1 q)) (hN h) := fun F => smf_congr _ fun q hq => by rw [hT_new_ne (by omega)]
  refine ⟨fun q hq hr => ?_, ?_, ?_, ?_⟩
  · rw [hN_new] at hq
    by_cases e : q = hN h
    · rw [e, hT_new_eq] at hr; exact absurd hr ht1
    · rw [hT_new_ne e] at hr ⊢
      exact h1 q (by omega) hr
  · rw [hN_new, smf]
    show κ.2.1 + 1 ≤ smf (fun q => cstC (hT (hNew h t) q) (κ.1 q)) (hN h) + cstC (hT (hNew h t) (hN h)) (κ.1 (hN h))
    rw [eq1 cstC, hT_new_eq, show cstC t (κ.1 (hN h)) = 1 by simp [cstC, ht1]]
    omega
  · rw [hN_new, smf]
    show κ.2.2.1 + s ≤ smf (fun q => cstS (hT (hNew h t) q) (κ.1 q)) (hN h) + cstS (hT (hNew h t) (hN h)) (κ.1 (hN h))
    rw [eq1 cstS, hT_new_eq, show cstS t (κ.1 (hN h)) = s by rw [hs]; simp [cstS, ht1]]
    omega
  · show κ.2.2.2 + 1 = hN h + 1
    omega
/-! Object's constructor -/
def oiS (f : Ex (Option Nat)) : St := fun env h => (f env h).bind fun r => match r.1 with
  | some _ => some (.inl 0, env, r.2)
  | none => none
theorem JS.oi {M : MI} {brk cont pc pc1 i : Nat} {nx : List Nat} {f : Ex (Option Nat)} (hf : JX va_rf M 0 pc pc1 [] f) (w1 : Cond.methodLink M.1 i objectInit ∈ GW) (w2 : Cond.instanceMethod objectInit ∈ GW) (w3 : Cond.code objectInit ⟨#[0xb1]⟩ 1 none ∈ GW) (hdep : 1 ≤ M.2.2.2.1) (d : decode M.2.1 pc1 = .ok (.invokespecial i, 3)) : JS M brk cont pc (pc1 + 3) nx (oiS f) := by
  intro env h r env' h' e κ hκ
  obtain ⟨⟨x, h1⟩, e1, e⟩ := Option.bind_eq_some_iff.mp e
  cases x with
  | none => cases e
  | some a =>
    cases e
    obtain ⟨κ1, g1, l1, k1⟩ := hf env h (some a) _ e1 κ hκ
    refine ⟨κ1, g1, l1, fun G X C hE A _ _ _ => k1 G X C hE [] rfl fun t ht => ?_⟩
    rcases ht with rfl | ht
    · intro H locs ls ad bk cells slots hW hL hEn hV hS hn0 had hcc hsl
      refine W.objInit C.1 C.2.1 C.2.2.2.1 (C.2.2.2.2.1 _ w1) (C.2.2.2.2.1 _ w2) (C.2.2.2.2.1 _ w3) rfl (hL.1.trans C.2.2.1.symm) rfl d (Nat.le_trans hdep C.2.2.2.2.2.2.1) ?_ (A rfl _ (Or.inl rfl) H locs ls ad bk cells slots hW hL hEn (fun v hv => by cases hv) hS hn0 had hcc hsl)
      have := C.2.2.2.2.2.2.2.1
      show 2 * 0 + 0 + 12 ≤ _
      omega
    · cases ht
/-! a new object, with its constructor -/
def fokT : FieldType → Bool
  | .int => true
  | .boolean => true
  | .long => true
  | .object _ => true
  | .array _ => true
  | _ => false
theorem fvl_new {h : AH} {c k : Nat} {t : Nat × Nat} {ad : Nat → Nat} (hk : fokT (vwY c k) = true) : defaultValue (vwY c k) = fvl (hNew h t) ad (hN h) c k := by
  have e2 : hI (hNew h t) (hN h) k = 0 := congrFun (u1_eq (f := hI h)) k
  have e3 : hL (hNew h t) (hN h) k = 0 := congrFun (u1_eq (f := hL h)) k
  have e4 : hP (hNew h t) (hN h) k = none := congrFun (u1_eq (f := hP h)) k
  unfold fvl
  rw [e2, e3, e4]
  cases hv : vwY c k <;> rw [hv] at hk <;> first | rfl | cases hk
theorem new_row {M : MI} {c i pc : Nat} (hc : ClF c) (hty : ∀ k, k < vwN c → fokT (vwY c k) = true) (w1 : Cond.classLink M.1 i (vwR c) ∈ GW) (w2 : Cond.instantiable (vwR c) (vwN c) ∈ GW) (w3 : Cond.initialized (vwR c) ∈ GW) (d : decode M.2.1 pc = .ok (.new i, 3)) {G : GX} {X : CX} (C : CCx M G X) {h : AH} {caps ad : Nat → Nat} {bk : Nat → Nat → Int32} {H : Heap} (hW : Wd G h caps ad bk H) {locs : List Loc} {ls : Array Slot} {cells slots : Nat} {st : List Value} (hS : va_S (aBs G) X.2.1.1.heap H locs) (hcap : cells + 1 ≤ X.1.2.2.2.cells ∧ slots + vwN c ≤ X.1.2.2.2.slots)
    (kk : ∀ (a : Nat) (H1 : Heap), Wd G (hNew h (0, c)) caps (u1 ad (2 * hN h) a) bk H1 → va_S (aBs G) X.2.1.1.heap H1 locs → wX X H1 locs (cells + 1) (slots + vwN c) (F0 X.2.1.2.1 (pc + 3) ls (.ref a :: st))) : wX X H locs cells slots (F0 X.2.1.2.1 pc ls st) := by
  obtain ⟨⟨ws, pos, hP, hD, h1, h2⟩, b1, b2, b3⟩ := hW
  refine va_new (fs := flds (hNew h (0, c)) ad (hN h) c) C.1 C.2.1 (Ts := GW) C.2.2.2.2.1 hc.2.1 (vwY c) hc.2.2.1 C.2.2.2.1 (C.2.2.2.2.1 _ w1) (C.2.2.2.2.1 _ w2) (C.2.2.2.2.1 _ w3) C.2.2.2.2.2.1.1 hP hD hS (fun q hq => Nat.le_trans C.2.2.2.2.2.2.2.2.2.2.1 hq) hc.1 (fun j hj => ?_) hcap.1 hcap.2 d fun a H1 p1 d1 s1 => kk a H1 (Wd.push h1 h2 b1 b2 b3 (by simp) p1 d1 ?_) s1
  · unfold vp_V
    rw [List.getD_eq_getElem?_getD, flds_at hj]
    exact fvl_new (hty j hj)
  · rw [ekk_obj hT_new_eq]
    congr 2
    unfold flds
    apply List.map_congr_left
    intro k hk
    have hk := hty k (List.mem_range.mp hk)
    rw [← fvl_new hk, ← fvl_new hk]
def newO (c : Nat) (m : MS) : Ex (Option Nat) := fun _ h => (m [.ref (hN h)] (hNew h (0, c))).bind fun r => match r.1 with
  | none => some (some (hN h), r.2)
  | some _ => none
theorem JX.new {M : MI} {sh pc i c : Nat} {nx : List Nat} {y : MethodName} {cc : ByteArray} {nL dep : Nat} {m : MS} (hc : ClF c) (hty : ∀ k, k < vwN c → fokT (vwY c k) = true) (w1 : Cond.classLink M.1 i (vwR c) ∈ GW) (w2 : Cond.instantiable (vwR c) (vwN c) ∈ GW) (w3 : Cond.initialized (vwR c) ∈ GW) (d : decode M.2.1 pc = .ok (.new i, 3)) (d2 : decode M.2.1 (pc + 3) = .ok (.dup, 1)) (hm : MA y cc nL none dep m) (hr : RunK M (pc + 4) y cc nL none dep (inB 0)) (hsh : sh + 1 ≤ 8) : JX va_rf M sh pc (pc + 7) nx (newO c m) := by
  intro env h x h' e κ hκ
  obtain ⟨⟨v, h2⟩, e1, e⟩ := Option.bind_eq_some_iff.mp e
  cases v with
  | some v => cases e
  | none =>
    cases e
    have g1 : Gdk (hNew h (0, c)) (kNew κ 1 (vwN c)) := hκ.push (by simp) rfl
    obtain ⟨κ2, g2, l2, k2⟩ := call_at hm hr (vs := [.ref (hN h)]) rfl e1 g1
    have l1 : kle κ (kNew κ 1 (vwN c)) := ⟨Nat.le_add_right _ _, Nat.le_add_right _ _, Nat.le_add_right _ _⟩
    refine ⟨κ2, g2, kle_tr l1 l2, fun G X C hE st hst A => ?_⟩
    have W1 := k2 G X C hE env (va_rf (some (hN h)) :: st) (by rw [wds_cons, hst]; show 1 + sh ≤ 8; omega) (A (pc + 7) (Or.inl rfl))
    intro H locs ls ad bk cells slots hW hL hEn hV hS hn0 had hcc hsl
    have hcap : cells + 1 ≤ X.1.2.2.2.cells ∧ slots + vwN c ≤ X.1.2.2.2.slots := by
      have a1 := C.2.2.2.2.2.2.2.2.1
      have a2 := C.2.2.2.2.2.2.2.2.2.1
      have a3 := l2.1
      have a4 := l2.2.1
      have a5 := hE.1
      have a6 := hE.2.1
      simp only [kNew] at a3 a4
      omega
    refine new_row hc hty w1 w2 w3 d C hW hS hcap fun a H1 hW1 hS1 => ?_
    refine lv_dup C.1 C.2.1 d2 rfl ?_
    have agc : ∀ w, vok (hN h) w → cvv (u1 ad (2 * hN h) a) w = cvv ad w := fun w hw => by
      cases w with
      | ref b => show Value.ref (u1 ad (2 * hN h) a (2 * b)) = Value.ref (ad (2 * b)); rw [u1_ne (ne_two (hw b rfl))]
      | _ => rfl
    have up : ∀ w, vok (hN h) w → vok (hN (hNew h (0, c))) w := fun w hw b hb => Nat.lt_succ_of_lt (hw b hb)
    have W2 := W1 H1 locs ls (u1 ad (2 * hN h) a) bk (cells + 1) (slots + vwN c) hW1 ⟨hL.1, hL.2.1, fun k w hk => by rw [agc w (hEn w (List.mem_of_getElem? hk))]; exact hL.2.2 k w hk⟩ (fun w hw => up w (hEn w hw)) (fun w hw => by
        rcases List.mem_cons.mp hw with rfl | hw
        · exact fun b hb => by cases hb; exact Nat.lt_succ_self _
        · rcases List.mem_cons.mp hw with rfl | hw
          · exact fun b hb => by cases hb; exact Nat.lt_succ_self _
          · exact up w (hV w hw)) hS1 (Nat.le_succ_of_le hn0) (fun q hq => by rw [u1_ne (by omega)]; exact had q hq) (by simp only [kNew]; omega) (by simp only [kNew]; omega)
    have est : ([Value.ref (hN h)].reverse ++ va_rf (some (hN h)) :: st).map (cvv (u1 ad (2 * hN h) a)) = .ref a :: .ref a :: st.map (cvv ad) := by
      simp only [List.reverse_cons, List.reverse_nil, List.nil_append, List.cons_append, List.map_cons]
      congr 1
      · show Value.ref _ = _; rw [u1_eq]
      · congr 1
        · show Value.ref _ = _; rw [u1_eq]
        · exact List.map_congr_left fun w hw => agc w (hV w hw)
    rw [est] at W2
    exact W2
/-! new arrays -/
def newA (kd : Nat) (f : Ex Int32) : Ex (Option Nat) := fun env h => (f env h).bind fun r => if ¬ r.1 < 0 ∧ r.1.toNatClampNeg ≤ 65536 then some (some (hN r.2), hNew r.2 (kd, r.1.toNatClampNeg)) else none
theorem JX.newa {M : MI} {sh pc pc1 pc2 kd : Nat} {nx : List Nat} {f : Ex Int32} (hk2 : 2 ≤ kd) (hf : JX Value.int M sh pc pc1 [] f)
    (row : ∀ (n : Int32), ¬ n < 0 → n.toNatClampNeg ≤ 65536 → ∀ G X, CCx M G X → ∀ (h : AH) caps ad bk H locs ls cells slots (st : List Value), Wd G h caps ad bk H → va_S (aBs G) X.2.1.1.heap H locs → cells + 1 ≤ X.1.2.2.2.cells → slots + n.toNatClampNeg ≤ X.1.2.2.2.slots → (∀ a H1, Wd G (hNew h (kd, n.toNatClampNeg)) caps (u1 ad (2 * hN h) a) bk H1 → va_S (aBs G) X.2.1.1.heap H1 locs → wX X H1 locs (cells + 1) (slots + n.toNatClampNeg) (F0 X.2.1.2.1 pc2 ls (.ref a :: st))) → wX X H locs cells slots (F0 X.2.1.2.1 pc1 ls (.int n :: st))) : JX va_rf M sh pc pc2 nx (newA kd f) := by
  intro env h x h' e κ hκ
  obtain ⟨⟨n, h1⟩, e1, e⟩ := Option.bind_eq_some_iff.mp e
  dsimp only at e
  split at e
  · rename_i hn
    cases e
    obtain ⟨κ1, g1, l1, k1⟩ := hf env h n h1 e1 κ hκ
    have hs : n.toNatClampNeg = cstS (kd, n.toNatClampNeg) 0 := by
      have a : ¬ kd = 1 := by omega
      have b : ¬ kd = 0 := by omega
      simp [cstS, a, b]
    have g2 : Gdk (hNew h1 (kd, n.toNatClampNeg)) (kNew κ1 1 n.toNatClampNeg) := g1.push (by show kd ≠ 1; omega) hs
    have l2 : kle κ1 (kNew κ1 1 n.toNatClampNeg) := ⟨Nat.le_add_right _ _, Nat.le_add_right _ _, Nat.le_add_right _ _⟩
    refine ⟨_, g2, kle_tr l1 l2, fun G X C hE st hst A => k1 G X C (kle_tr l2 hE) st hst fun t ht => ?_⟩
    rcases ht with rfl | ht
    · intro H locs ls ad bk cells slots hW hL hEn hV hS hn0 had hcc hsl
      have a1 := C.2.2.2.2.2.2.2.2.1
      have a2 := C.2.2.2.2.2.2.2.2.2.1
      have a5 := hE.1
      have a6 := hE.2.1
      simp only [kNew] at a5 a6
      refine row n hn.1 hn.2 G X C h1 κ1.1 ad bk H locs ls cells slots (st.map (cvv ad)) hW hS (by omega) (by omega) fun a H1 hW1 hS1 => ?_
      have hV' : ∀ v ∈ st, vok (hN h1) v := fun v hv => hV v (List.mem_cons_of_mem _ hv)
      have agc : ∀ w, vok (hN h1) w → cvv (u1 ad (2 * hN h1) a) w = cvv ad w := fun w hw => by
        cases w with
        | ref b => show Value.ref (u1 ad (2 * hN h1) a (2 * b)) = Value.ref (ad (2 * b)); rw [u1_ne (ne_two (hw b rfl))]
        | _ => rfl
      have up : ∀ w, vok (hN h1) w → vok (hN (hNew h1 (kd, n.toNatClampNeg))) w := fun w hw b hb => Nat.lt_succ_of_lt (hw b hb)
      have W2 := A pc2 (Or.inl rfl) H1 locs ls (u1 ad (2 * hN h1) a) bk (cells + 1) (slots + n.toNatClampNeg) hW1 ⟨hL.1, hL.2.1, fun k w hk => by rw [agc w (hEn w (List.mem_of_getElem? hk))]; exact hL.2.2 k w hk⟩ (fun w hw => up w (hEn w hw)) (fun w hw => by
          rcases List.mem_cons.mp hw with rfl | hw
          · exact fun b hb => by cases hb; exact Nat.lt_succ_self _
          · exact up w (hV' w hw)) hS1 (Nat.le_succ_of_le hn0) (fun q hq => by rw [u1_ne (by omega)]; exact had q hq) (by simp only [kNew]; omega) (by simp only [kNew]; omega)
      have est : (va_rf (some (hN h1)) :: st).map (cvv (u1 ad (2 * hN h1) a)) = .ref a :: st.map (cvv ad) := by
        rw [List.map_cons]
        congr 1
        · show Value.ref _ = _; rw [u1_eq]
        · exact List.map_congr_left fun w hw => agc w (hV' w hw)
      rw [est] at W2
      exact W2
    · cases ht
  · cases e
theorem newa_row {M : MI} {pc kd t0 : Nat} {aty : ArrayType} {ty : FieldType} {a0 : Nat → vp_A} (hty : newarray.typeOf aty = ty) (w : Cond.arrayClass (newarray.typeOf aty) ∈ GW) (ht0 : ∀ G : GX, (tyG G)[t0]? = some (G.2.1 t0, ty)) (hra : ∀ (s : State) (cA : ClassId), va_RA s cA ty → s.vm.findClass ("[" ++ ty.toString) = some cA) (ha0 : ∀ n cA, vp_cell cA (a0 n) = arrV cA n (fun _ => defaultValue ty)) (hcb : ∀ n, n ≤ 65536 → n * componentBytes ty ≤ 536870912) (hkd : kd ≠ 1) (hek : ∀ (G : GX) (h : AH) ad n, ekk G (hNew h (kd, n)) ad (hN h) = .inl (G.2.1 t0, a0 n)) (d : decode M.2.1 pc = .ok (.newarray aty, 2)) :
    ∀ (n : Int32), ¬ n < 0 → n.toNatClampNeg ≤ 65536 → ∀ G X, CCx M G X → ∀ (h : AH) caps ad bk H locs ls cells slots (st : List Value), Wd G h caps ad bk H → va_S (aBs G) X.2.1.1.heap H locs → cells + 1 ≤ X.1.2.2.2.cells → slots + n.toNatClampNeg ≤ X.1.2.2.2.slots → (∀ a H1, Wd G (hNew h (kd, n.toNatClampNeg)) caps (u1 ad (2 * hN h) a) bk H1 → va_S (aBs G) X.2.1.1.heap H1 locs → wX X H1 locs (cells + 1) (slots + n.toNatClampNeg) (F0 X.2.1.2.1 (pc + 2) ls (.ref a :: st))) → wX X H locs cells slots (F0 X.2.1.2.1 pc ls (.int n :: st)) := by
  intro n hn hn2 G X C h caps ad bk H locs ls cells slots st hW hS hc1 hc2 kk
  obtain ⟨⟨ws, pos, hP, hD, h1, h2⟩, b1, b2, b3⟩ := hW
  refine va_newa (a0 := a0 n.toNatClampNeg) C.1 C.2.1 (C.2.2.2.2.1 _ w) hty C.2.2.2.2.2.1.1 hP hD hS (fun q hq => Nat.le_trans C.2.2.2.2.2.2.2.2.2.2.1 hq) (ha0 _) hn rfl (hcb _ hn2) hc1 hc2 d fun a cA H1 hK1 p1 d1 s1 => kk a H1 (Wd.push h1 h2 b1 b2 b3 hkd p1 d1 ?_) s1
  rw [hek]
  have k1 := (hK1.2 4 (cA, ty) rfl).2
  have k2 := (hK1.2 t0 (G.2.1 t0, ty) (by
    have hl : t0 < 4 := (List.getElem?_eq_some_iff.mp (ht0 G)).1
    rw [List.getElem?_append_left hl]
    exact ht0 G)).2
  have e : cA = G.2.1 t0 := Option.some.inj ((hra _ _ k1).symm.trans (hra _ _ k2))
  rw [e]
theorem JX.newi {M : MI} {sh pc pc1 : Nat} {nx : List Nat} {f : Ex Int32} (hf : JX Value.int M sh pc pc1 [] f) (w : Cond.arrayClass (newarray.typeOf .int) ∈ GW) (d : decode M.2.1 pc1 = .ok (.newarray .int, 2)) : JX va_rf M sh pc (pc1 + 2) nx (newA 2 f) :=
  JX.newa (Nat.le_refl 2) hf (newa_row (ty := .int) (t0 := 0) (a0 := fun n => (n, .inl (fun _ => 0))) rfl w (fun _ => rfl) (fun _ _ z => z) (fun _ _ => rfl) (fun n hn => by show n * 4 ≤ _; omega) (by decide) (fun G h ad n => by
    rw [ekk_ia (by rw [hT_new_eq]), hT_new_eq, show hI (hNew h (2, n)) (hN h) = fun _ => 0 from u1_eq]) d)
theorem JX.newz {M : MI} {sh pc pc1 : Nat} {nx : List Nat} {f : Ex Int32} (hf : JX Value.int M sh pc pc1 [] f) (w : Cond.arrayClass (newarray.typeOf .boolean) ∈ GW) (d : decode M.2.1 pc1 = .ok (.newarray .boolean, 2)) : JX va_rf M sh pc (pc1 + 2) nx (newA 4 f) :=
  JX.newa (by decide) hf (newa_row (ty := .boolean) (t0 := 2) (a0 := fun n => (n, .inl (fun _ => 0))) rfl w (fun _ => rfl) (fun _ _ z => z) (fun _ _ => rfl) (fun n hn => by show n * 1 ≤ _; omega) (by decide) (fun G h ad n => by
    rw [ekk_za (by rw [hT_new_eq]), hT_new_eq, show hI (hNew h (4, n)) (hN h) = fun _ => 0 from u1_eq]) d)
theorem JX.newl {M : MI} {sh pc pc1 : Nat} {nx : List Nat} {f : Ex Int32} (hf : JX Value.int M sh pc pc1 [] f) (w : Cond.arrayClass (newarray.typeOf .long) ∈ GW) (d : decode M.2.1 pc1 = .ok (.newarray .long, 2)) : JX va_rf M sh pc (pc1 + 2) nx (newA 3 f) :=
  JX.newa (by decide) hf (newa_row (ty := .long) (t0 := 1) (a0 := fun n => (n, .inr (.inl (fun _ => 0)))) rfl w (fun _ => rfl) (fun _ _ z => z) (fun _ _ => rfl) (fun n hn => by show n * 8 ≤ _; omega) (by decide) (fun G h ad n => by
    rw [ekk_la (by rw [hT_new_eq]), hT_new_eq, show hL (hNew h (3, n)) (hN h) = fun _ => 0 from u1_eq]) d)
theorem JX.newr {M : MI} {sh pc pc1 i : Nat} {nx : List Nat} {f : Ex Int32} (hf : JX Value.int M sh pc pc1 [] f) (w : Cond.classLink M.1 i RX9 ∈ GW) (d : decode M.2.1 pc1 = .ok (.anewarray i, 3)) : JX va_rf M sh pc (pc1 + 3) nx (newA 5 f) :=
  JX.newa (by decide) hf fun n hn hn2 G X C h caps ad bk H locs ls cells slots st hW hS hc1 hc2 kk => by
    obtain ⟨⟨ws, pos, hP', hD, h1, h2⟩, b1, b2, b3⟩ := hW
    refine va_newq C.1 C.2.1 C.2.2.2.1 (C.2.2.2.2.1 _ w) C.2.2.2.2.2.1.2.2.1 C.2.2.2.2.2.1.1 hP' hD hS (fun q hq => Nat.le_trans C.2.2.2.2.2.2.2.2.2.2.1 hq) hn rfl (by omega) hc1 hc2 d fun a cA H1 hK1 p1 d1 s1 => kk a H1 (Wd.push h1 h2 b1 b2 b3 (by simp) p1 d1 ?_) s1
    have k1 := (hK1.2 4 (cA, .object RX9) rfl).2
    have k2 := (hK1.2 3 (G.2.1 3, .object RX9) rfl).2
    obtain ⟨_, _, _, _, _, f1⟩ := k1
    obtain ⟨_, _, _, _, _, f2⟩ := k2
    have e : cA = G.2.1 3 := Option.some.inj (f1.symm.trans f2)
    rw [ekk_ra (by rw [hT_new_eq]), hT_new_eq, show hP (hNew h (5, n.toNatClampNeg)) (hN h) = fun _ => none from u1_eq, e]
    rfl
