/-! ===== reading and writing the abstract heap ===== -/
theorem hI_sI (h : AH) (q k : Nat) (v : Int32) : hI (sI h q k v) = u2 (hI h) q k v := rfl
theorem u2_ne {α : Type} {f : Nat → Nat → α} {q k a : Nat} {v : α} (h : a ≠ q) : u2 f q k v a = f a := by
  funext b
  simp [u2, h]
theorem u2_eq {α : Type} {f : Nat → Nat → α} {q k : Nat} {v : α} : u2 f q k v q = fun j => if j = k then v else f q j := by
  funext b
  simp [u2]
theorem u1_ne {α : Type} {f : Nat → α} {q a : Nat} {v : α} (h : a ≠ q) : u1 f q v a = f a := by simp [u1, h]
theorem u1_eq {α : Type} {f : Nat → α} {q : Nat} {v : α} : u1 f q v q = v := by simp [u1]
/-- an entry of a list of fields -/
theorem flds_at {h : AH} {ad : Nat → Nat} {q c k : Nat} (hk : k < vwN c) : (flds h ad q c)[k]? = some (fvl h ad q c k) := by simp [flds, hk]
theorem flds_set {h h' : AH} {ad : Nat → Nat} {q c k : Nat} {v : Value} (hk : k < vwN c) (hv : fvl h' ad q c k = v) (ho : ∀ j, j ≠ k → fvl h' ad q c j = fvl h ad q c j) : flds h' ad q c = (flds h ad q c).set k v := by
  apply List.ext_getElem?
  intro i
  by_cases hi : i = k
  · subst hi
    rw [flds_at hk, List.getElem?_set_self (by simp [flds]; exact hk), hv]
  · rw [List.getElem?_set_ne (fun q => hi q.symm)]
    by_cases hl : i < vwN c
    · rw [flds_at hl, flds_at hl, ho i hi]
    · simp [flds, hl]
theorem ekk_ne {G : GX} {h h' : AH} {ad : Nat → Nat} {q : Nat} (hT' : hT h' q = hT h q) (h1 : hI h' q = hI h q) (h2 : hL h' q = hL h q) (h3 : hP h' q = hP h q) (h4 : hR h' q = hR h q) : ekk G h' ad q = ekk G h ad q := by
  have hf : ∀ c, flds h' ad q c = flds h ad q c := fun c => by
    unfold flds
    congr 1
    funext k
    simp only [fvl, h1, h2, h3]
  unfold ekk
  rw [hT', h1, h2, h4, h3, hf]
theorem lvk_main {h : AH} {q : Nat} (hq : q < hN h) : lvk h (2 * q) := ⟨by omega, fun z => by omega⟩
theorem lvk_arr {h : AH} {q : Nat} (hq : q < hN h) (hr : (hT h q).1 = 1) : lvk h (2 * q + 1) := ⟨by omega, fun z => by rw [show (2 * q + 1) / 2 = q by omega]; exact hr⟩
theorem enn_main {G : GX} {h : AH} {caps ad : Nat → Nat} {bk : Nat → Nat → Int32} {q : Nat} : enn G h caps ad bk (2 * q) = (ad (2 * q), ekk G h ad q) := by
  unfold enn
  rw [if_pos (by omega), show 2 * q / 2 = q by omega]
theorem enn_arr {G : GX} {h : AH} {caps ad : Nat → Nat} {bk : Nat → Nat → Int32} {q : Nat} : enn G h caps ad bk (2 * q + 1) = (ad (2 * q + 1), .inl (G.2.1 0, caps q, .inl (bk q))) := by
  unfold enn
  rw [if_neg (by omega), show (2 * q + 1) / 2 = q by omega]
theorem ekk_obj {G : GX} {h : AH} {ad : Nat → Nat} {q c : Nat} (ht : hT h q = (0, c)) : ekk G h ad q = .inr (c, flds h ad q c) := by
  unfold ekk
  rw [ht]
  rfl
theorem ekk_row {G : GX} {h : AH} {ad : Nat → Nat} {q : Nat} (ht : (hT h q).1 = 1) : ekk G h ad q = .inr (5, [.ref (ad (2 * q + 1)), .int (nI (hR h q).length)]) := by
  unfold ekk
  rw [if_neg (by omega), if_pos ht]
theorem ekk_ia {G : GX} {h : AH} {ad : Nat → Nat} {q : Nat} (ht : (hT h q).1 = 2) : ekk G h ad q = .inl (G.2.1 0, (hT h q).2, .inl (hI h q)) := by
  unfold ekk
  rw [if_neg (by omega), if_neg (by omega), if_pos ht]
theorem ekk_la {G : GX} {h : AH} {ad : Nat → Nat} {q : Nat} (ht : (hT h q).1 = 3) : ekk G h ad q = .inl (G.2.1 1, (hT h q).2, .inr (.inl (hL h q))) := by
  unfold ekk
  rw [if_neg (by omega), if_neg (by omega), if_neg (by omega), if_pos ht]
theorem ekk_za {G : GX} {h : AH} {ad : Nat → Nat} {q : Nat} (ht : (hT h q).1 = 4) : ekk G h ad q = .inl (G.2.1 2, (hT h q).2, .inl (hI h q)) := by
  unfold ekk
  rw [if_neg (by omega), if_neg (by omega), if_neg (by omega), if_neg (by omega), if_pos ht]
theorem ekk_ra {G : GX} {h : AH} {ad : Nat → Nat} {q : Nat} (ht : (hT h q).1 = 5) : ekk G h ad q = .inl (G.2.1 3, (hT h q).2, .inr (.inr (.inr (.inr (fun j => (hP h q j).map (fun a => ad (2 * a))))))) := by
  unfold ekk
  rw [if_neg (by omega), if_neg (by omega), if_neg (by omega), if_neg (by omega), if_neg (by omega)]
theorem Wd.lt {G : GX} {h : AH} {caps ad : Nat → Nat} {bk : Nat → Nat → Int32} {H : Heap} (hW : Wd G h caps ad bk H) {q : Nat} (ht : (hT h q).1 ≠ 9) : q < hN h := by
  rcases Nat.lt_or_ge q (hN h) with z | z
  · exact z
  · exact absurd (hW.2.2.2 q z) ht
/-- behind a write of the cell of one key -/
theorem Wd.upd {G : GX} {h h' : AH} {caps ad : Nat → Nat} {bk bk' : Nat → Nat → Int32} {ws : va_W} {pos : Nat → Nat} {k0 : Nat} {e' : Nat × va_E} {H1 : Heap} (h1 : ∀ k, lvk h k → ws[pos k]? = some (enn G h caps ad bk k)) (h2 : ∀ k k', lvk h k → lvk h k' → pos k = pos k' → k = k') (hk0 : lvk h k0)
    (hP1 : va_P G.1 vwCl (ws.set (pos k0) e') H1) (hD1 : va_D (aBs G) (ws.set (pos k0) e')) (hn : hN h' = hN h) (ht : hT h' = hT h) (he : enn G h' caps ad bk' k0 = e') (ho : ∀ k, k ≠ k0 → lvk h k → enn G h' caps ad bk' k = enn G h caps ad bk k)
    (r1 : ∀ q k a, hP h' q k = some a → a < hN h) (r2 : ∀ q, q < hN h → (hT h q).1 = 1 → (hR h' q).length ≤ caps q ∧ caps q < 2 ^ 30 ∧ ∀ i, i < (hR h' q).length → bk' q i = (hR h' q).getD i 0) (r3 : ∀ q, hN h ≤ q → (hT h q).1 = 9) : Wd G h' caps ad bk' H1 := by
  have lv : ∀ k, lvk h' k ↔ lvk h k := fun k => by unfold lvk; rw [hn, ht]
  refine ⟨⟨_, pos, hP1, hD1, fun k hk => ?_, fun k k' a b => h2 k k' ((lv k).mp a) ((lv k').mp b)⟩, by rw [hn]; exact r1, by rw [hn, ht]; exact r2, by rw [hn, ht]; exact r3⟩
  have hk := (lv k).mp hk
  have hlen : pos k0 < ws.length := (List.getElem?_eq_some_iff.mp (h1 k0 hk0)).1
  by_cases e : k = k0
  · subst e
    rw [List.getElem?_set_self hlen, he]
  · rw [List.getElem?_set_ne (fun z => e (h2 k0 k hk0 hk z).symm), h1 k hk, ho k e hk]
theorem enn_ne {G : GX} {h h' : AH} {caps ad : Nat → Nat} {bk : Nat → Nat → Int32} {q k : Nat} (hk : k ≠ 2 * q) (hh : ∀ q', q' ≠ q → hT h' q' = hT h q' ∧ hI h' q' = hI h q' ∧ hL h' q' = hL h q' ∧ hP h' q' = hP h q' ∧ hR h' q' = hR h q') : enn G h' caps ad bk k = enn G h caps ad bk k := by
  unfold enn
  by_cases h0 : k % 2 = 0
  · rw [if_pos h0, if_pos h0]
    obtain ⟨a, b, c, d, e⟩ := hh (k / 2) (by omega)
    rw [ekk_ne a b c d e]
  · rw [if_neg h0, if_neg h0]
/-! fields -/
def getI (c k : Nat) (f : Ex (Option Nat)) : Ex Int32 := fun env h => (f env h).bind fun r => match r.1 with
  | some q => if hT r.2 q = (0, c) then some (hI r.2 q k, r.2) else none
  | none => none
def getL (c k : Nat) (f : Ex (Option Nat)) : Ex Int64 := fun env h => (f env h).bind fun r => match r.1 with
  | some q => if hT r.2 q = (0, c) then some (hL r.2 q k, r.2) else none
  | none => none
def getR (c k : Nat) (f : Ex (Option Nat)) : Ex (Option Nat) := fun env h => (f env h).bind fun r => match r.1 with
  | some q => if hT r.2 q = (0, c) then some (hP r.2 q k, r.2) else none
  | none => none
/-- the length of a Row, by its field -/
def rszI (f : Ex (Option Nat)) : Ex Int32 := fun env h => (f env h).bind fun r => match r.1 with
  | some q => if (hT r.2 q).1 = 1 then some (nI (hR r.2 q).length, r.2) else none
  | none => none
/-- one instruction behind a reference: it reads the heap -/
theorem JX.rd {α : Type} {inj : α → Value} {M : MI} {sh pc pc1 pc2 : Nat} {nx : List Nat} {f : Ex (Option Nat)} {op : Nat → AH → Option α} (hf : JX va_rf M sh pc pc1 [] f)
    (row : ∀ q h x, op q h = some x → ∀ G X, CCx M G X → ∀ H locs ls caps ad bk cells slots (st : List Value), Wd G h caps ad bk H → vok (hN h) (inj x) ∧ (wX X H locs cells slots (F0 X.2.1.2.1 pc2 ls (cvv ad (inj x) :: st)) → wX X H locs cells slots (F0 X.2.1.2.1 pc1 ls (.ref (ad (2 * q)) :: st)))) {g : Ex α} (hg : ∀ env h x h', g env h = some (x, h') → ∃ q, f env h = some (some q, h') ∧ op q h' = some x) : JX inj M sh pc pc2 nx g := by
  intro env h x h' e κ hκ
  obtain ⟨q, e1, e2⟩ := hg env h x h' e
  obtain ⟨κ1, g1, l1, k1⟩ := hf env h (some q) h' e1 κ hκ
  refine ⟨κ1, g1, l1, fun G X C hE st hst A => k1 G X C hE st hst fun t ht => ?_⟩
  rcases ht with rfl | ht
  · intro H locs ls ad bk cells slots hW hL hEn hV hS hn0 had hc hsl
    obtain ⟨r1, r2⟩ := row q h' x e2 G X C H locs ls κ1.1 ad bk cells slots (st.map (cvv ad)) hW
    exact r2 (A pc2 (Or.inl rfl) H locs ls ad bk cells slots hW hL hEn (fun v hv => (List.mem_cons.mp hv).elim (fun z => z ▸ r1) (fun z => hV v (List.mem_cons_of_mem _ z))) hS hn0 had hc hsl)
  · cases ht
theorem getI_some {c k : Nat} {f : Ex (Option Nat)} (env : List Slot) (h : AH) (x : Int32) (h' : AH) (e : getI c k f env h = some (x, h')) : ∃ q, f env h = some (some q, h') ∧ (fun q h => if hT h q = (0, c) then some (hI h q k) else none) q h' = some x := by
  unfold getI at e
  obtain ⟨⟨r, h1⟩, e1, e⟩ := Option.bind_eq_some_iff.mp e
  cases r with
  | none => cases e
  | some q =>
    dsimp only at e
    split at e
    · rename_i ht
      cases e
      exact ⟨q, e1, by simp [ht]⟩
    · cases e
theorem getL_some {c k : Nat} {f : Ex (Option Nat)} (env : List Slot) (h : AH) (x : Int64) (h' : AH) (e : getL c k f env h = some (x, h')) : ∃ q, f env h = some (some q, h') ∧ (fun q h => if hT h q = (0, c) then some (hL h q k) else none) q h' = some x := by
  unfold getL at e
  obtain ⟨⟨r, h1⟩, e1, e⟩ := Option.bind_eq_some_iff.mp e
  cases r with
  | none => cases e
  | some q =>
    dsimp only at e
    split at e
    · rename_i ht
      cases e
      exact ⟨q, e1, by simp [ht]⟩
    · cases e
theorem getR_some {c k : Nat} {f : Ex (Option Nat)} (env : List Slot) (h : AH) (x : Option Nat) (h' : AH) (e : getR c k f env h = some (x, h')) : ∃ q, f env h = some (some q, h') ∧ (fun q h => if hT h q = (0, c) then some (hP h q k) else none) q h' = some x := by
  unfold getR at e
  obtain ⟨⟨r, h1⟩, e1, e⟩ := Option.bind_eq_some_iff.mp e
  cases r with
  | none => cases e
  | some q =>
    dsimp only at e
    split at e
    · rename_i ht
      cases e
      exact ⟨q, e1, by simp [ht]⟩
    · cases e
theorem rszI_some {f : Ex (Option Nat)} (env : List Slot) (h : AH) (x : Int32) (h' : AH) (e : rszI f env h = some (x, h')) : ∃ q, f env h = some (some q, h') ∧ (fun q h => if (hT h q).1 = 1 then some (nI (hR h q).length) else none) q h' = some x := by
  unfold rszI at e
  obtain ⟨⟨r, h1⟩, e1, e⟩ := Option.bind_eq_some_iff.mp e
  cases r with
  | none => cases e
  | some q =>
    dsimp only at e
    split at e
    · rename_i ht
      cases e
      exact ⟨q, e1, by simp [ht]⟩
    · cases e
/-- a field's link: its own class's, or a nest mate's -/
def FLk (own : String) (i c k : Nat) : Prop := Cond.fieldLink own i (vwT c k).1 (vwT c k).2.1 (vwT c k).2.2.1 ∈ GW ∨ Cond.fieldLinkNest own i (vwT c k).1 (vwT c k).2.1 (vwT c k).2.2.1 RX11 ∈ NW
theorem get_row {M : MI} {c k i pc : Nat} (hc : ClF c) (hk : k < vwN c) (w : FLk M.1 i c k) (d : decode M.2.1 pc = .ok (.getfield i, 3)) {G : GX} {X : CX} (C : CCx M G X) {h : AH} {q : Nat} {caps ad : Nat → Nat} {bk : Nat → Nat → Int32} {H : Heap} (hW : Wd G h caps ad bk H) (ht : hT h q = (0, c)) {locs : List Loc} {ls : Array Slot} {cells slots : Nat} {st : List Value}
    (kk : wX X H locs cells slots (F0 X.2.1.2.1 (pc + 3) ls (fvl h ad q c k :: st))) : wX X H locs cells slots (F0 X.2.1.2.1 pc ls (.ref (ad (2 * q)) :: st)) := by
  have hq := hW.lt (q := q) (by rw [ht]; simp)
  obtain ⟨⟨ws, pos, hP, hD, h1, h2⟩, -⟩ := hW
  have e := h1 (2 * q) (lvk_main hq)
  rw [enn_main, ekk_obj ht] at e
  rcases w with w | w
  · exact va_get C.1 C.2.1 (Ts := GW) C.2.2.2.2.1 hc.2.1 C.2.2.2.1 C.2.2.2.2.2.1.1 hP (pos (2 * q)) e hc.1 k hk (C.2.2.2.2.1 _ w) (fun _ z => z) (flds_at hk) d kk
  · exact va_getN C.1 C.2.1 (Ts := GW) C.2.2.2.2.1 hc.2.1 C.2.2.2.1 C.2.2.2.2.2.1.1 hP (pos (2 * q)) e hc.1 k hk (va_Nw.use rfl (C.2.2.2.2.2.1.2.1 _ w)) (fun _ z => z) (flds_at hk) d kk
theorem JX.getI {M : MI} {sh pc pc1 c k i : Nat} {nx : List Nat} {f : Ex (Option Nat)} (hf : JX va_rf M sh pc pc1 [] f) (hc : ClF c) (hk : k < vwN c) (hy : fkd (vwY c k) = 0) (w : FLk M.1 i c k) (d : decode M.2.1 pc1 = .ok (.getfield i, 3)) : JX Value.int M sh pc (pc1 + 3) nx (getI c k f) :=
  JX.rd (op := fun q h => if hT h q = (0, c) then some (hI h q k) else none) hf (fun q h x e G X C H locs ls caps ad bk cells slots st hW => by
    try dsimp only at e
    split at e
    · rename_i ht
      cases e
      refine ⟨vok_int, fun kk => get_row hc hk w d C hW ht ?_⟩
      rw [show fvl h ad q c k = Value.int (hI h q k) by simp [fvl, hy]]
      exact kk
    · cases e) getI_some
theorem JX.getL {M : MI} {sh pc pc1 c k i : Nat} {nx : List Nat} {f : Ex (Option Nat)} (hf : JX va_rf M sh pc pc1 [] f) (hc : ClF c) (hk : k < vwN c) (hy : fkd (vwY c k) = 1) (w : FLk M.1 i c k) (d : decode M.2.1 pc1 = .ok (.getfield i, 3)) : JX Value.long M sh pc (pc1 + 3) nx (getL c k f) :=
  JX.rd (op := fun q h => if hT h q = (0, c) then some (hL h q k) else none) hf (fun q h x e G X C H locs ls caps ad bk cells slots st hW => by
    try dsimp only at e
    split at e
    · rename_i ht
      cases e
      refine ⟨vok_long, fun kk => get_row hc hk w d C hW ht ?_⟩
      rw [show fvl h ad q c k = Value.long (hL h q k) by simp [fvl, hy]]
      exact kk
    · cases e) getL_some
theorem JX.getR {M : MI} {sh pc pc1 c k i : Nat} {nx : List Nat} {f : Ex (Option Nat)} (hf : JX va_rf M sh pc pc1 [] f) (hc : ClF c) (hk : k < vwN c) (hy : fkd (vwY c k) = 2) (w : FLk M.1 i c k) (d : decode M.2.1 pc1 = .ok (.getfield i, 3)) : JX va_rf M sh pc (pc1 + 3) nx (getR c k f) :=
  JX.rd (op := fun q h => if hT h q = (0, c) then some (hP h q k) else none) hf (fun q h x e G X C H locs ls caps ad bk cells slots st hW => by
    try dsimp only at e
    split at e
    · rename_i ht
      cases e
      refine ⟨fun a ha => ?_, fun kk => get_row hc hk w d C hW ht ?_⟩
      · cases hp : hP h q k with
        | none => rw [hp] at ha; cases ha
        | some b => rw [hp] at ha; cases ha; exact hW.2.1 q k _ hp
      rw [show fvl h ad q c k = cvv ad (va_rf (hP h q k)) by rw [cvv_rf]; simp [fvl, hy]]
      exact kk
    · cases e) getR_some
theorem JX.rsz {M : MI} {sh pc pc1 i : Nat} {nx : List Nat} {f : Ex (Option Nat)} (hf : JX va_rf M sh pc pc1 [] f) (hc : ClF 5) (w : FLk M.1 i 5 1) (d : decode M.2.1 pc1 = .ok (.getfield i, 3)) : JX Value.int M sh pc (pc1 + 3) nx (rszI f) :=
  JX.rd (op := fun q h => if (hT h q).1 = 1 then some (nI (hR h q).length) else none) hf (fun q h x e G X C H locs ls caps ad bk cells slots st hW => by
    try dsimp only at e
    split at e
    · rename_i ht
      cases e
      refine ⟨vok_int, fun kk => ?_⟩
      have hq := hW.lt (q := q) (by omega)
      obtain ⟨⟨ws, pos, hP, hD, h1, h2⟩, -⟩ := hW
      have e := h1 (2 * q) (lvk_main hq)
      rw [enn_main, ekk_row ht] at e
      rcases w with w | w
      · exact va_get C.1 C.2.1 (Ts := GW) C.2.2.2.2.1 hc.2.1 C.2.2.2.1 C.2.2.2.2.2.1.1 hP (pos (2 * q)) e hc.1 1 (by decide) (C.2.2.2.2.1 _ w) (fun _ z => z) rfl d kk
      · exact va_getN C.1 C.2.1 (Ts := GW) C.2.2.2.2.1 hc.2.1 C.2.2.2.1 C.2.2.2.2.2.1.1 hP (pos (2 * q)) e hc.1 1 (by decide) (va_Nw.use rfl (C.2.2.2.2.2.1.2.1 _ w)) (fun _ z => z) rfl d kk
    · cases e) rszI_some
/-! arrays -/
def ixOk (i : Int32) (n : Nat) : Prop := ¬ i < 0 ∧ i.toNatClampNeg < n
theorem ixOk.vp {i : Int32} {n : Nat} (h : ixOk i n) : vp_in i n := fun q => q.elim h.1 (fun z => Nat.not_le.mpr h.2 z)
def aldI (kd : Nat) (f : Ex (Option Nat)) (g : Ex Int32) : Ex Int32 := fun env h => (f env h).bind fun r => (g env r.2).bind fun r2 => match r.1 with
  | some q => if (hT r2.2 q).1 = kd ∧ ¬ r2.1 < 0 ∧ r2.1.toNatClampNeg < (hT r2.2 q).2 then some (hI r2.2 q r2.1.toNatClampNeg, r2.2) else none
  | none => none
def aldL (f : Ex (Option Nat)) (g : Ex Int32) : Ex Int64 := fun env h => (f env h).bind fun r => (g env r.2).bind fun r2 => match r.1 with
  | some q => if (hT r2.2 q).1 = 3 ∧ ¬ r2.1 < 0 ∧ r2.1.toNatClampNeg < (hT r2.2 q).2 then some (hL r2.2 q r2.1.toNatClampNeg, r2.2) else none
  | none => none
def aldR (f : Ex (Option Nat)) (g : Ex Int32) : Ex (Option Nat) := fun env h => (f env h).bind fun r => (g env r.2).bind fun r2 => match r.1 with
  | some q => if (hT r2.2 q).1 = 5 ∧ ¬ r2.1 < 0 ∧ r2.1.toNatClampNeg < (hT r2.2 q).2 then some (hP r2.2 q r2.1.toNatClampNeg, r2.2) else none
  | none => none
theorem JX.ald {α : Type} {inj : α → Value} {M : MI} {sh pc pc1 pc2 pc3 : Nat} {nx : List Nat} {f : Ex (Option Nat)} {g : Ex Int32} {op : Nat → Int32 → AH → Option α} (hf : JX va_rf M sh pc pc1 [] f) (hg : JX Value.int M (1 + sh) pc1 pc2 [] g)
    (row : ∀ q i h x, op q i h = some x → ∀ G X, CCx M G X → ∀ H locs ls caps ad bk cells slots (st : List Value), Wd G h caps ad bk H → vok (hN h) (inj x) ∧ (wX X H locs cells slots (F0 X.2.1.2.1 pc3 ls (cvv ad (inj x) :: st)) → wX X H locs cells slots (F0 X.2.1.2.1 pc2 ls (.int i :: .ref (ad (2 * q)) :: st)))) : JX inj M sh pc pc3 nx (fun env h => (f env h).bind fun r => (g env r.2).bind fun r2 => match r.1 with
  | some q => (op q r2.1 r2.2).bind fun x => some (x, r2.2)
  | none => none) := by
  intro env h x h' e κ hκ
  obtain ⟨⟨r, h1⟩, e1, e⟩ := Option.bind_eq_some_iff.mp e
  obtain ⟨⟨i, h2⟩, e2, e⟩ := Option.bind_eq_some_iff.mp e
  cases r with
  | none => cases e
  | some q =>
    obtain ⟨x', e3, e⟩ := Option.bind_eq_some_iff.mp e
    cases e
    obtain ⟨κ1, g1, l1, k1⟩ := hf env h (some q) h1 e1 κ hκ
    obtain ⟨κ2, g2, l2, k2⟩ := hg env h1 i _ e2 κ1 g1
    refine ⟨κ2, g2, kle_tr l1 l2, fun G X C hE st hst A => k1 G X C (kle_tr l2 hE) st hst fun t ht => ?_⟩
    rcases ht with rfl | ht
    · refine k2 G X C hE (va_rf (some q) :: st) (by rw [wds_cons, hst]; rfl) fun t ht => ?_
      rcases ht with rfl | ht
      · intro H locs ls ad bk cells slots hW hL hEn hV hS hn0 had hc hsl
        obtain ⟨r1, r2⟩ := row q i _ x e3 G X C H locs ls κ2.1 ad bk cells slots (st.map (cvv ad)) hW
        exact r2 (A pc3 (Or.inl rfl) H locs ls ad bk cells slots hW hL hEn (fun v hv => (List.mem_cons.mp hv).elim (fun z => z ▸ r1) (fun z => hV v (List.mem_cons_of_mem _ (List.mem_cons_of_mem _ z)))) hS hn0 had hc hsl)
      · cases ht
    · cases ht
theorem JX.cg {α : Type} {inj : α → Value} {M : MI} {sh pc pc' : Nat} {nx : List Nat} {f g : Ex α} (h : JX inj M sh pc pc' nx g) (e : f = g) : JX inj M sh pc pc' nx f := e ▸ h
theorem JX.iald {M : MI} {sh pc pc1 pc2 : Nat} {nx : List Nat} {f : Ex (Option Nat)} {g : Ex Int32} (hf : JX va_rf M sh pc pc1 [] f) (hg : JX Value.int M (1 + sh) pc1 pc2 [] g) (d : decode M.2.1 pc2 = .ok (.iaload, 1)) : JX Value.int M sh pc (pc2 + 1) nx (aldI 2 f g) :=
  (JX.ald (op := fun q i h => if (hT h q).1 = 2 ∧ ¬ i < 0 ∧ i.toNatClampNeg < (hT h q).2 then some (hI h q i.toNatClampNeg) else none) hf hg fun q i h x e G X C H locs ls caps ad bk cells slots st hW => by
    try dsimp only at e
    split at e
    · rename_i ht
      cases e
      refine ⟨vok_int, fun kk => ?_⟩
      have hq := hW.lt (q := q) (by omega)
      obtain ⟨⟨ws, pos, hP, hD, h1, h2⟩, -⟩ := hW
      have e := h1 (2 * q) (lvk_main hq)
      rw [enn_main, ekk_ia ht.1] at e
      exact va_iald C.1 C.2.1 C.2.2.2.2.2.1.1 hP (pos (2 * q)) 0 e rfl (ixOk.vp ht.2) d kk
    · cases e).cg (by
      funext env h
      unfold aldI
      congr 1; funext r; congr 1; funext r2
      cases r.1 with
      | none => rfl
      | some q => dsimp only; split <;> rfl)
theorem JX.zald {M : MI} {sh pc pc1 pc2 : Nat} {nx : List Nat} {f : Ex (Option Nat)} {g : Ex Int32} (hf : JX va_rf M sh pc pc1 [] f) (hg : JX Value.int M (1 + sh) pc1 pc2 [] g) (d : decode M.2.1 pc2 = .ok (.baload, 1)) : JX Value.int M sh pc (pc2 + 1) nx (aldI 4 f g) :=
  (JX.ald (op := fun q i h => if (hT h q).1 = 4 ∧ ¬ i < 0 ∧ i.toNatClampNeg < (hT h q).2 then some (hI h q i.toNatClampNeg) else none) hf hg fun q i h x e G X C H locs ls caps ad bk cells slots st hW => by
    try dsimp only at e
    split at e
    · rename_i ht
      cases e
      refine ⟨vok_int, fun kk => ?_⟩
      have hq := hW.lt (q := q) (by omega)
      obtain ⟨⟨ws, pos, hP, hD, h1, h2⟩, -⟩ := hW
      have e := h1 (2 * q) (lvk_main hq)
      rw [enn_main, ekk_za ht.1] at e
      exact va_zald C.1 C.2.1 C.2.2.2.2.2.1.1 hP (pos (2 * q)) 2 e rfl (ixOk.vp ht.2) d kk
    · cases e).cg (by
      funext env h
      unfold aldI
      congr 1; funext r; congr 1; funext r2
      cases r.1 with
      | none => rfl
      | some q => dsimp only; split <;> rfl)
theorem JX.lald {M : MI} {sh pc pc1 pc2 : Nat} {nx : List Nat} {f : Ex (Option Nat)} {g : Ex Int32} (hf : JX va_rf M sh pc pc1 [] f) (hg : JX Value.int M (1 + sh) pc1 pc2 [] g) (d : decode M.2.1 pc2 = .ok (.laload, 1)) : JX Value.long M sh pc (pc2 + 1) nx (aldL f g) :=
  (JX.ald (op := fun q i h => if (hT h q).1 = 3 ∧ ¬ i < 0 ∧ i.toNatClampNeg < (hT h q).2 then some (hL h q i.toNatClampNeg) else none) hf hg fun q i h x e G X C H locs ls caps ad bk cells slots st hW => by
    try dsimp only at e
    split at e
    · rename_i ht
      cases e
      refine ⟨vok_long, fun kk => ?_⟩
      have hq := hW.lt (q := q) (by omega)
      obtain ⟨⟨ws, pos, hP, hD, h1, h2⟩, -⟩ := hW
      have e := h1 (2 * q) (lvk_main hq)
      rw [enn_main, ekk_la ht.1] at e
      exact va_lald C.1 C.2.1 C.2.2.2.2.2.1.1 hP (pos (2 * q)) 1 e rfl (ixOk.vp ht.2) d kk
    · cases e).cg (by
      funext env h
      unfold aldL
      congr 1; funext r; congr 1; funext r2
      cases r.1 with
      | none => rfl
      | some q => dsimp only; split <;> rfl)
theorem JX.aald {M : MI} {sh pc pc1 pc2 : Nat} {nx : List Nat} {f : Ex (Option Nat)} {g : Ex Int32} (hf : JX va_rf M sh pc pc1 [] f) (hg : JX Value.int M (1 + sh) pc1 pc2 [] g) (d : decode M.2.1 pc2 = .ok (.aaload, 1)) : JX va_rf M sh pc (pc2 + 1) nx (aldR f g) :=
  (JX.ald (op := fun q i h => if (hT h q).1 = 5 ∧ ¬ i < 0 ∧ i.toNatClampNeg < (hT h q).2 then some (hP h q i.toNatClampNeg) else none) hf hg fun q i h x e G X C H locs ls caps ad bk cells slots st hW => by
    try dsimp only at e
    split at e
    · rename_i ht
      cases e
      refine ⟨fun a ha => ?_, fun kk => ?_⟩
      · cases hp : hP h q i.toNatClampNeg with
        | none => rw [hp] at ha; cases ha
        | some b => rw [hp] at ha; cases ha; exact hW.2.1 q _ _ hp
      have hq := hW.lt (q := q) (by omega)
      obtain ⟨⟨ws, pos, hP', hD, h1, h2⟩, -⟩ := hW
      have e := h1 (2 * q) (lvk_main hq)
      rw [enn_main, ekk_ra ht.1] at e
      rw [cvv_rf] at kk
      exact va_aldq C.1 C.2.1 C.2.2.2.2.2.1.1 hP' (pos (2 * q)) 3 e rfl (ixOk.vp ht.2) d kk
    · cases e).cg (by
      funext env h
      unfold aldR
      congr 1; funext r; congr 1; funext r2
      cases r.1 with
      | none => rfl
      | some q => dsimp only; split <;> rfl)
/-- an array's length -/
def alnI (f : Ex (Option Nat)) : Ex Int32 := fun env h => (f env h).bind fun r => match r.1 with
  | some q => if 2 ≤ (hT r.2 q).1 ∧ (hT r.2 q).1 ≤ 5 then some (nI (hT r.2 q).2, r.2) else none
  | none => none
theorem JX.aln {M : MI} {sh pc pc1 : Nat} {nx : List Nat} {f : Ex (Option Nat)} (hf : JX va_rf M sh pc pc1 [] f) (d : decode M.2.1 pc1 = .ok (.arraylength, 1)) : JX Value.int M sh pc (pc1 + 1) nx (alnI f) :=
  JX.rd (op := fun q h => if 2 ≤ (hT h q).1 ∧ (hT h q).1 ≤ 5 then some (nI (hT h q).2) else none) hf (fun q h x e G X C H locs ls caps ad bk cells slots st hW => by
    try dsimp only at e
    split at e
    · rename_i ht
      cases e
      refine ⟨vok_int, fun kk => ?_⟩
      have hq := hW.lt (q := q) (by omega)
      obtain ⟨⟨ws, pos, hP', hD, h1, h2⟩, -⟩ := hW
      have e := h1 (2 * q) (lvk_main hq)
      rw [enn_main] at e
      rcases (show (hT h q).1 = 2 ∨ (hT h q).1 = 3 ∨ (hT h q).1 = 4 ∨ (hT h q).1 = 5 by omega) with t | t | t | t
      · rw [ekk_ia t] at e; exact va_alen C.1 C.2.1 C.2.2.2.2.2.1.1 hP' (pos (2 * q)) 0 e rfl rfl d kk
      · rw [ekk_la t] at e; exact va_alen C.1 C.2.1 C.2.2.2.2.2.1.1 hP' (pos (2 * q)) 1 e rfl rfl d kk
      · rw [ekk_za t] at e; exact va_alen C.1 C.2.1 C.2.2.2.2.2.1.1 hP' (pos (2 * q)) 2 e rfl rfl d kk
      · rw [ekk_ra t] at e; exact va_alen C.1 C.2.1 C.2.2.2.2.2.1.1 hP' (pos (2 * q)) 3 e rfl rfl d kk
    · cases e) fun env h x h' e => by
      unfold alnI at e
      obtain ⟨⟨r, h1⟩, e1, e⟩ := Option.bind_eq_some_iff.mp e
      cases r with
      | none => cases e
      | some q =>
        dsimp only at e
        split at e
        · rename_i ht
          cases e
          exact ⟨q, e1, by simp [ht]⟩
        · cases e
