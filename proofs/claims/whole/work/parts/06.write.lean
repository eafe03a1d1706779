/-! ===== writes ===== -/
theorem Gdk.same {h h' : AH} {κ : KP} (hκ : Gdk h κ) (hn : hN h' = hN h) (ht : hT h' = hT h) : Gdk h' κ := by
  unfold Gdk at *
  rw [hn, ht]
  exact hκ
/-- a reference, a value, one instruction that writes -/
theorem JS.wr {α : Type} {inj : α → Value} {M : MI} {brk cont pc pc1 pc2 pc3 : Nat} {nx : List Nat} {f : Ex (Option Nat)} {g : Ex α} {op : Nat → α → AH → Option AH} (hf : JX va_rf M 0 pc pc1 [] f) (hg : JX inj M 1 pc1 pc2 [] g)
    (row : ∀ q v h h', op q v h = some h' → hN h' = hN h ∧ hT h' = hT h ∧ ∀ G X, CCx M G X → ∀ H locs ls caps ad bk cells slots (st : List Value), Wd G h caps ad bk H → vok (hN h) (inj v) → va_S (aBs G) X.2.1.1.heap H locs → (∀ H1 locs1 bk1, Wd G h' caps ad bk1 H1 → va_S (aBs G) X.2.1.1.heap H1 locs1 → wX X H1 locs1 cells slots (F0 X.2.1.2.1 pc3 ls st)) → wX X H locs cells slots (F0 X.2.1.2.1 pc2 ls (cvv ad (inj v) :: .ref (ad (2 * q)) :: st))) : JS M brk cont pc pc3 nx (fun env h => (f env h).bind fun r => (g env r.2).bind fun r2 => match r.1 with
  | some q => (op q r2.1 r2.2).bind fun h' => some (.inl 0, env, h')
  | none => none) := by
  intro env h r env' h' e κ hκ
  obtain ⟨⟨q, h1⟩, e1, e⟩ := Option.bind_eq_some_iff.mp e
  obtain ⟨⟨v, h2⟩, e2, e⟩ := Option.bind_eq_some_iff.mp e
  cases q with
  | none => cases e
  | some q =>
    obtain ⟨h3, e3, e⟩ := Option.bind_eq_some_iff.mp e
    cases e
    obtain ⟨κ1, g1, l1, k1⟩ := hf env h (some q) h1 e1 κ hκ
    obtain ⟨κ2, g2, l2, k2⟩ := hg env h1 v h2 e2 κ1 g1
    obtain ⟨n1, n2, rw⟩ := row q v h2 h' e3
    refine ⟨κ2, g2.same n1 n2, kle_tr l1 l2, fun G X C hE A _ _ _ => k1 G X C (kle_tr l2 hE) [] rfl fun t ht => ?_⟩
    rcases ht with rfl | ht
    · refine k2 G X C hE [va_rf (some q)] rfl fun t ht => ?_
      rcases ht with rfl | ht
      · intro H locs ls ad bk cells slots hW hL hEn hV hS hn0 had hc hsl
        refine rw G X C H locs ls κ2.1 ad bk cells slots [] hW (hV _ List.mem_cons_self) hS fun H1 locs1 bk1 hW1 hS1 => ?_
        exact A rfl pc3 (Or.inl rfl) H1 locs1 ls ad bk1 cells slots hW1 hL (by rw [n1]; exact hEn) (fun v hv => by cases hv) hS1 (by rw [n1]; exact hn0) had hc hsl
      · cases ht
    · cases ht
theorem JS.cg {M : MI} {brk cont pc pc' : Nat} {nx : List Nat} {f g : St} (h : JS M brk cont pc pc' nx g) (e : f = g) : JS M brk cont pc pc' nx f := e ▸ h
/-- putfield of an object's cell -/
theorem put_row {M : MI} {c k i pc : Nat} (hc : ClF c) (hk : k < vwN c) (w : FLk M.1 i c k) (hfin : (vwT c k).2.2.2 = false ∨ ((vwT c k).2.2.2 = true ∧ M.2.2.2.2 = true ∧ vwR c = M.1 ∧ Cond.fieldLink M.1 i (vwT c k).1 (vwT c k).2.1 (vwT c k).2.2.1 ∈ GW)) (d : decode M.2.1 pc = .ok (.putfield i, 3)) {G : GX} {X : CX} (C : CCx M G X) {h h' : AH} {q : Nat} {caps ad : Nat → Nat} {bk : Nat → Nat → Int32} {H : Heap} (hW : Wd G h caps ad bk H) (ht : hT h q = (0, c)) {v : Value} (hn : narrow (vwY c k) v = v) (hfit : fits (vwY c k) v = true)
    (h1N : hN h' = hN h) (h1T : hT h' = hT h) (h1v : fvl h' ad q c k = v) (h1o : ∀ j, j ≠ k → fvl h' ad q c j = fvl h ad q c j) (hoth : ∀ q', q' ≠ q → hT h' q' = hT h q' ∧ hI h' q' = hI h q' ∧ hL h' q' = hL h q' ∧ hP h' q' = hP h q' ∧ hR h' q' = hR h q') (hRR : hR h' = hR h) (href : ∀ q k a, hP h' q k = some a → a < hN h)
    {locs : List Loc} {ls : Array Slot} {cells slots : Nat} {st : List Value} (hS : va_S (aBs G) X.2.1.1.heap H locs) (kk : ∀ H1 locs1, Wd G h' caps ad bk H1 → va_S (aBs G) X.2.1.1.heap H1 locs1 → wX X H1 locs1 cells slots (F0 X.2.1.2.1 (pc + 3) ls st)) : wX X H locs cells slots (F0 X.2.1.2.1 pc ls (v :: .ref (ad (2 * q)) :: st)) := by
  have hq := hW.lt (q := q) (by rw [ht]; simp)
  obtain ⟨⟨ws, pos, hP, hD, h1, h2⟩, b1, b2, b3⟩ := hW
  have e := h1 (2 * q) (lvk_main hq)
  rw [enn_main, ekk_obj ht] at e
  have fin : ∀ (H1 : Heap) (locs1 : List Loc), va_P G.1 vwCl (ws.set (pos (2 * q)) (ad (2 * q), .inr (c, (flds h ad q c).set k v))) H1 → va_D (aBs G) (ws.set (pos (2 * q)) (ad (2 * q), .inr (c, (flds h ad q c).set k v))) → va_S (aBs G) X.2.1.1.heap H1 locs1 → wX X H1 locs1 cells slots (F0 X.2.1.2.1 (pc + 3) ls st) := by
    intro H1 locs1 p1 d1 s1
    refine kk H1 locs1 (Wd.upd h1 h2 (lvk_main hq) p1 d1 h1N h1T ?_ (fun k' hk' _ => enn_ne hk' hoth) href (by rw [hRR]; exact b2) b3) s1
    rw [enn_main, ekk_obj (by rw [h1T]; exact ht), flds_set hk h1v h1o]
  have hlen : k < (flds h ad q c).length := by simp [flds]; exact hk
  rcases hfin with hfin | ⟨hfin, hini, hR, wf⟩
  · rcases w with w | w
    · exact va_put C.1 C.2.1 (Ts := GW) C.2.2.2.2.1 hc.2.1 (vwY c) hc.2.2.1 hc.2.2.2.1 C.2.2.2.1 C.2.2.2.2.2.1.1 hP hD hS (pos (2 * q)) e hc.1 k hk (C.2.2.2.2.1 _ w) (fun _ z => z) hfin (hc.2.2.1 k hk) hn hfit hlen d fin
    · exact va_putN C.1 C.2.1 (Ts := GW) C.2.2.2.2.1 hc.2.1 (vwY c) hc.2.2.1 hc.2.2.2.1 C.2.2.2.1 C.2.2.2.2.2.1.1 hP hD hS (pos (2 * q)) e hc.1 k hk (va_Nw.use rfl (C.2.2.2.2.2.1.2.1 _ w)) (fun _ z => z) hfin (hc.2.2.1 k hk) hn hfit hlen d fin
  · exact va_putF C.1 C.2.1 (Ts := GW) C.2.2.2.2.1 hc.2.1 (vwY c) hc.2.2.1 hc.2.2.2.1 C.2.2.2.1 C.2.2.2.2.2.1.1 hP hD hS (pos (2 * q)) e hc.1 k hk (C.2.2.2.2.1 _ wf) (fun _ z => z) hfin (C.2.2.2.2.2.2.2.2.2.2.2 hini) (by rw [hc.2.2.2.2 k hk]; exact hR) (hc.2.2.1 k hk) hn hfit hlen d fin
/-- may this field be written here: it isn't final, or this is its class's constructor -/
def FPk (M : MI) (i c k : Nat) : Prop := (vwT c k).2.2.2 = false ∨ ((vwT c k).2.2.2 = true ∧ M.2.2.2.2 = true ∧ vwR c = M.1 ∧ Cond.fieldLink M.1 i (vwT c k).1 (vwT c k).2.1 (vwT c k).2.2.1 ∈ GW)
theorem fvl_sI {h : AH} {ad : Nat → Nat} {q c k : Nat} {v : Int32} (hy : fkd (vwY c k) = 0) : fvl (sI h q k v) ad q c k = .int v := by
  simp [fvl, hy, hI, sI, u2]
theorem fvl_sI_ne {h : AH} {ad : Nat → Nat} {q c k j : Nat} {v : Int32} (hj : j ≠ k) : fvl (sI h q k v) ad q c j = fvl h ad q c j := by
  simp [fvl, hI, hL, hP, sI, u2, hj]
theorem oth_sI {h : AH} {q k : Nat} {v : Int32} : ∀ q', q' ≠ q → hT (sI h q k v) q' = hT h q' ∧ hI (sI h q k v) q' = hI h q' ∧ hL (sI h q k v) q' = hL h q' ∧ hP (sI h q k v) q' = hP h q' ∧ hR (sI h q k v) q' = hR h q' := fun q' hq' => ⟨rfl, u2_ne hq', rfl, rfl, rfl⟩
theorem fvl_sL {h : AH} {ad : Nat → Nat} {q c k : Nat} {v : Int64} (hy : fkd (vwY c k) = 1) : fvl (sL h q k v) ad q c k = .long v := by
  simp [fvl, hy, hL, sL, u2]
theorem fvl_sL_ne {h : AH} {ad : Nat → Nat} {q c k j : Nat} {v : Int64} (hj : j ≠ k) : fvl (sL h q k v) ad q c j = fvl h ad q c j := by
  simp [fvl, hI, hL, hP, sL, u2, hj]
theorem oth_sL {h : AH} {q k : Nat} {v : Int64} : ∀ q', q' ≠ q → hT (sL h q k v) q' = hT h q' ∧ hI (sL h q k v) q' = hI h q' ∧ hL (sL h q k v) q' = hL h q' ∧ hP (sL h q k v) q' = hP h q' ∧ hR (sL h q k v) q' = hR h q' := fun q' hq' => ⟨rfl, rfl, u2_ne hq', rfl, rfl⟩
theorem fvl_sP {h : AH} {ad : Nat → Nat} {q c k : Nat} {v : Option Nat} (hy : fkd (vwY c k) = 2) : fvl (sP h q k v) ad q c k = cvv ad (va_rf v) := by
  rw [cvv_rf]
  simp [fvl, hy, hP, sP, u2]
theorem fvl_sP_ne {h : AH} {ad : Nat → Nat} {q c k j : Nat} {v : Option Nat} (hj : j ≠ k) : fvl (sP h q k v) ad q c j = fvl h ad q c j := by
  simp [fvl, hI, hL, hP, sP, u2, hj]
theorem oth_sP {h : AH} {q k : Nat} {v : Option Nat} : ∀ q', q' ≠ q → hT (sP h q k v) q' = hT h q' ∧ hI (sP h q k v) q' = hI h q' ∧ hL (sP h q k v) q' = hL h q' ∧ hP (sP h q k v) q' = hP h q' ∧ hR (sP h q k v) q' = hR h q' := fun q' hq' => ⟨rfl, rfl, rfl, u2_ne hq', rfl⟩
theorem ref_sP {h : AH} {q k : Nat} {v : Option Nat} (hr : ∀ q k a, hP h q k = some a → a < hN h) (hv : vok (hN h) (va_rf v)) : ∀ q' k' a, hP (sP h q k v) q' k' = some a → a < hN h := by
  intro q' k' a ha
  by_cases e : q' = q ∧ k' = k
  · have : v = some a := by simpa [hP, sP, u2, e] using ha
    exact hv a (by rw [this]; rfl)
  · exact hr q' k' a (by simpa [hP, sP, u2, e] using ha)
def putI (c k : Nat) (f : Ex (Option Nat)) (g : Ex Int32) : St := fun env h => (f env h).bind fun r => (g env r.2).bind fun r2 => match r.1 with
  | some q => if hT r2.2 q = (0, c) then some (.inl 0, env, sI r2.2 q k r2.1) else none
  | none => none
def putZ (c k : Nat) (f : Ex (Option Nat)) (g : Ex Int32) : St := fun env h => (f env h).bind fun r => (g env r.2).bind fun r2 => match r.1 with
  | some q => if hT r2.2 q = (0, c) ∧ (r2.1 = 0 ∨ r2.1 = 1) then some (.inl 0, env, sI r2.2 q k r2.1) else none
  | none => none
def putL (c k : Nat) (f : Ex (Option Nat)) (g : Ex Int64) : St := fun env h => (f env h).bind fun r => (g env r.2).bind fun r2 => match r.1 with
  | some q => if hT r2.2 q = (0, c) then some (.inl 0, env, sL r2.2 q k r2.1) else none
  | none => none
def putR (c k : Nat) (f : Ex (Option Nat)) (g : Ex (Option Nat)) : St := fun env h => (f env h).bind fun r => (g env r.2).bind fun r2 => match r.1 with
  | some q => if hT r2.2 q = (0, c) then some (.inl 0, env, sP r2.2 q k r2.1) else none
  | none => none
theorem JS.pI {M : MI} {brk cont pc pc1 pc2 c k i : Nat} {nx : List Nat} {f : Ex (Option Nat)} {g : Ex Int32} (hf : JX va_rf M 0 pc pc1 [] f) (hg : JX Value.int M 1 pc1 pc2 [] g) (hc : ClF c) (hk : k < vwN c) (hy : vwY c k = .int) (w : FLk M.1 i c k) (wf : FPk M i c k) (d : decode M.2.1 pc2 = .ok (.putfield i, 3)) : JS M brk cont pc (pc2 + 3) nx (putI c k f g) :=
  (JS.wr (op := fun q v h => if hT h q = (0, c) then some (sI h q k v) else none) hf hg fun q v h h' e => by
    try dsimp only at e
    split at e
    · rename_i ht
      cases e
      refine ⟨rfl, rfl, fun G X C H locs ls caps ad bk cells slots st hW hv hS kk => ?_⟩
      exact put_row (h' := sI h q k v) hc hk w wf d C hW ht (v := .int v) (by rw [hy]; rfl) (by rw [hy]; rfl) rfl rfl (fvl_sI (by rw [hy]; rfl)) (fun j hj => fvl_sI_ne hj) oth_sI rfl hW.2.1 hS (fun H1 l1 a b => kk H1 l1 bk a b)
    · cases e).cg (by
      funext env h
      unfold putI
      congr 1; funext r; congr 1; funext r2
      cases r.1 with
      | none => rfl
      | some q => dsimp only; split <;> rfl)
theorem JS.pZ {M : MI} {brk cont pc pc1 pc2 c k i : Nat} {nx : List Nat} {f : Ex (Option Nat)} {g : Ex Int32} (hf : JX va_rf M 0 pc pc1 [] f) (hg : JX Value.int M 1 pc1 pc2 [] g) (hc : ClF c) (hk : k < vwN c) (hy : vwY c k = .boolean) (w : FLk M.1 i c k) (wf : FPk M i c k) (d : decode M.2.1 pc2 = .ok (.putfield i, 3)) : JS M brk cont pc (pc2 + 3) nx (putZ c k f g) :=
  (JS.wr (op := fun q v h => if hT h q = (0, c) ∧ (v = 0 ∨ v = 1) then some (sI h q k v) else none) hf hg fun q v h h' e => by
    try dsimp only at e
    split at e
    · rename_i ht
      cases e
      refine ⟨rfl, rfl, fun G X C H locs ls caps ad bk cells slots st hW hv hS kk => ?_⟩
      exact put_row (h' := sI h q k v) hc hk w wf d C hW ht.1 (v := .int v) (by rw [hy]; rcases ht.2 with z | z <;> rw [z] <;> rfl) (by rw [hy]; rcases ht.2 with z | z <;> rw [z] <;> rfl) rfl rfl (fvl_sI (by rw [hy]; rfl)) (fun j hj => fvl_sI_ne hj) oth_sI rfl hW.2.1 hS (fun H1 l1 a b => kk H1 l1 bk a b)
    · cases e).cg (by
      funext env h
      unfold putZ
      congr 1; funext r; congr 1; funext r2
      cases r.1 with
      | none => rfl
      | some q => dsimp only; split <;> rfl)
theorem JS.pL {M : MI} {brk cont pc pc1 pc2 c k i : Nat} {nx : List Nat} {f : Ex (Option Nat)} {g : Ex Int64} (hf : JX va_rf M 0 pc pc1 [] f) (hg : JX Value.long M 1 pc1 pc2 [] g) (hc : ClF c) (hk : k < vwN c) (hy : vwY c k = .long) (w : FLk M.1 i c k) (wf : FPk M i c k) (d : decode M.2.1 pc2 = .ok (.putfield i, 3)) : JS M brk cont pc (pc2 + 3) nx (putL c k f g) :=
  (JS.wr (op := fun q v h => if hT h q = (0, c) then some (sL h q k v) else none) hf hg fun q v h h' e => by
    try dsimp only at e
    split at e
    · rename_i ht
      cases e
      refine ⟨rfl, rfl, fun G X C H locs ls caps ad bk cells slots st hW hv hS kk => ?_⟩
      exact put_row (h' := sL h q k v) hc hk w wf d C hW ht (v := .long v) (by rw [hy]; rfl) (by rw [hy]; rfl) rfl rfl (fvl_sL (by rw [hy]; rfl)) (fun j hj => fvl_sL_ne hj) oth_sL rfl hW.2.1 hS (fun H1 l1 a b => kk H1 l1 bk a b)
    · cases e).cg (by
      funext env h
      unfold putL
      congr 1; funext r; congr 1; funext r2
      cases r.1 with
      | none => rfl
      | some q => dsimp only; split <;> rfl)
theorem narrow_rf {t : FieldType} (hy : (∃ n, t = .object n) ∨ ∃ n, t = .array n) (v : Option Nat) : narrow t (va_rf v) = va_rf v ∧ fits t (va_rf v) = true ∧ fkd t = 2 := by
  rcases hy with ⟨n, rfl⟩ | ⟨n, rfl⟩ <;> cases v <;> exact ⟨rfl, rfl, rfl⟩
theorem JS.pR {M : MI} {brk cont pc pc1 pc2 c k i : Nat} {nx : List Nat} {f : Ex (Option Nat)} {g : Ex (Option Nat)} (hf : JX va_rf M 0 pc pc1 [] f) (hg : JX va_rf M 1 pc1 pc2 [] g) (hc : ClF c) (hk : k < vwN c) (hy : (∃ n, vwY c k = .object n) ∨ ∃ n, vwY c k = .array n) (w : FLk M.1 i c k) (wf : FPk M i c k) (d : decode M.2.1 pc2 = .ok (.putfield i, 3)) : JS M brk cont pc (pc2 + 3) nx (putR c k f g) :=
  (JS.wr (op := fun q v h => if hT h q = (0, c) then some (sP h q k v) else none) hf hg fun q v h h' e => by
    try dsimp only at e
    split at e
    · rename_i ht
      cases e
      refine ⟨rfl, rfl, fun G X C H locs ls caps ad bk cells slots st hW hv hS kk => ?_⟩
      have nr := narrow_rf hy (v.map (fun a => ad (2 * a)))
      rw [← cvv_rf] at nr
      exact put_row (h' := sP h q k v) hc hk w wf d C hW ht (v := cvv ad (va_rf v)) nr.1 nr.2.1 rfl rfl (fvl_sP nr.2.2) (fun j hj => fvl_sP_ne hj) oth_sP rfl (ref_sP hW.2.1 hv) hS (fun H1 l1 a b => kk H1 l1 bk a b)
    · cases e).cg (by
      funext env h
      unfold putR
      congr 1; funext r; congr 1; funext r2
      cases r.1 with
      | none => rfl
      | some q => dsimp only; split <;> rfl)
/-! arrays -/
theorem JS.wr3 {α : Type} {inj : α → Value} {M : MI} {brk cont pc pc1 pc2 pc3 pc4 : Nat} {nx : List Nat} {f : Ex (Option Nat)} {g : Ex Int32} {u : Ex α} {op : Nat → Int32 → α → AH → Option AH} (hf : JX va_rf M 0 pc pc1 [] f) (hg : JX Value.int M 1 pc1 pc2 [] g) (hu : JX inj M 2 pc2 pc3 [] u)
    (row : ∀ q i v h h', op q i v h = some h' → hN h' = hN h ∧ hT h' = hT h ∧ ∀ G X, CCx M G X → ∀ H locs ls caps ad bk cells slots (st : List Value), Wd G h caps ad bk H → vok (hN h) (inj v) → va_S (aBs G) X.2.1.1.heap H locs → (∀ H1 locs1, Wd G h' caps ad bk H1 → va_S (aBs G) X.2.1.1.heap H1 locs1 → wX X H1 locs1 cells slots (F0 X.2.1.2.1 pc4 ls st)) → wX X H locs cells slots (F0 X.2.1.2.1 pc3 ls (cvv ad (inj v) :: .int i :: .ref (ad (2 * q)) :: st))) : JS M brk cont pc pc4 nx (fun env h => (f env h).bind fun r => (g env r.2).bind fun r2 => (u env r2.2).bind fun r3 => match r.1 with
  | some q => (op q r2.1 r3.1 r3.2).bind fun h' => some (.inl 0, env, h')
  | none => none) := by
  intro env h r env' h' e κ hκ
  obtain ⟨⟨q, h1⟩, e1, e⟩ := Option.bind_eq_some_iff.mp e
  obtain ⟨⟨i, h2⟩, e2, e⟩ := Option.bind_eq_some_iff.mp e
  obtain ⟨⟨v, h3⟩, e3, e⟩ := Option.bind_eq_some_iff.mp e
  cases q with
  | none => cases e
  | some q =>
    obtain ⟨h4, e4, e⟩ := Option.bind_eq_some_iff.mp e
    cases e
    obtain ⟨κ1, g1, l1, k1⟩ := hf env h (some q) h1 e1 κ hκ
    obtain ⟨κ2, g2, l2, k2⟩ := hg env h1 i h2 e2 κ1 g1
    obtain ⟨κ3, g3, l3, k3⟩ := hu env h2 v h3 e3 κ2 g2
    obtain ⟨n1, n2, rw⟩ := row q i v h3 h' e4
    refine ⟨κ3, g3.same n1 n2, kle_tr l1 (kle_tr l2 l3), fun G X C hE A _ _ _ => k1 G X C (kle_tr l2 (kle_tr l3 hE)) [] rfl fun t ht => ?_⟩
    rcases ht with rfl | ht
    · refine k2 G X C (kle_tr l3 hE) [va_rf (some q)] rfl fun t ht => ?_
      rcases ht with rfl | ht
      · refine k3 G X C hE [.int i, va_rf (some q)] rfl fun t ht => ?_
        rcases ht with rfl | ht
        · intro H locs ls ad bk cells slots hW hL hEn hV hS hn0 had hc hsl
          refine rw G X C H locs ls κ3.1 ad bk cells slots [] hW (hV _ List.mem_cons_self) hS fun H1 locs1 hW1 hS1 => ?_
          exact A rfl pc4 (Or.inl rfl) H1 locs1 ls ad bk cells slots hW1 hL (by rw [n1]; exact hEn) (fun v hv => by cases hv) hS1 (by rw [n1]; exact hn0) had hc hsl
        · cases ht
      · cases ht
    · cases ht
def astI (f : Ex (Option Nat)) (g : Ex Int32) (u : Ex Int32) : St := fun env h => (f env h).bind fun r => (g env r.2).bind fun r2 => (u env r2.2).bind fun r3 => match r.1 with
  | some q => if (hT r3.2 q).1 = 2 ∧ ¬ r2.1 < 0 ∧ r2.1.toNatClampNeg < (hT r3.2 q).2 then some (.inl 0, env, sI r3.2 q r2.1.toNatClampNeg r3.1) else none
  | none => none
def astZ (f : Ex (Option Nat)) (g : Ex Int32) (u : Ex Int32) : St := fun env h => (f env h).bind fun r => (g env r.2).bind fun r2 => (u env r2.2).bind fun r3 => match r.1 with
  | some q => if (hT r3.2 q).1 = 4 ∧ ¬ r2.1 < 0 ∧ r2.1.toNatClampNeg < (hT r3.2 q).2 ∧ (r3.1 = 0 ∨ r3.1 = 1) then some (.inl 0, env, sI r3.2 q r2.1.toNatClampNeg r3.1) else none
  | none => none
def astL (f : Ex (Option Nat)) (g : Ex Int32) (u : Ex Int64) : St := fun env h => (f env h).bind fun r => (g env r.2).bind fun r2 => (u env r2.2).bind fun r3 => match r.1 with
  | some q => if (hT r3.2 q).1 = 3 ∧ ¬ r2.1 < 0 ∧ r2.1.toNatClampNeg < (hT r3.2 q).2 then some (.inl 0, env, sL r3.2 q r2.1.toNatClampNeg r3.1) else none
  | none => none
def astR (f : Ex (Option Nat)) (g : Ex Int32) (u : Ex (Option Nat)) : St := fun env h => (f env h).bind fun r => (g env r.2).bind fun r2 => (u env r2.2).bind fun r3 => match r.1, r3.1 with
  | some q, some a => if (hT r3.2 q).1 = 5 ∧ (¬ r2.1 < 0 ∧ r2.1.toNatClampNeg < (hT r3.2 q).2) ∧ hT r3.2 a = (0, 9) then some (.inl 0, env, sP r3.2 q r2.1.toNatClampNeg (some a)) else none
  | _, _ => none
theorem arr_wd {G : GX} {h h' : AH} {q : Nat} {caps ad : Nat → Nat} {bk : Nat → Nat → Int32} {ws : va_W} {pos : Nat → Nat} (b1 : ∀ q k a, hP h q k = some a → a < hN h) (b2 : ∀ q, q < hN h → (hT h q).1 = 1 → (hR h q).length ≤ caps q ∧ caps q < 2 ^ 30 ∧ ∀ i, i < (hR h q).length → bk q i = (hR h q).getD i 0) (b3 : ∀ q, hN h ≤ q → (hT h q).1 = 9) (h1 : ∀ k, lvk h k → ws[pos k]? = some (enn G h caps ad bk k)) (h2 : ∀ k k', lvk h k → lvk h k' → pos k = pos k' → k = k') (hq : q < hN h) {e' : va_E} {H1 : Heap}
    (p1 : va_P G.1 vwCl (ws.set (pos (2 * q)) (ad (2 * q), e')) H1) (d1 : va_D (aBs G) (ws.set (pos (2 * q)) (ad (2 * q), e'))) (h1N : hN h' = hN h) (h1T : hT h' = hT h) (he : ekk G h' ad q = e') (hoth : ∀ q', q' ≠ q → hT h' q' = hT h q' ∧ hI h' q' = hI h q' ∧ hL h' q' = hL h q' ∧ hP h' q' = hP h q' ∧ hR h' q' = hR h q') (hRR : hR h' = hR h) (href : ∀ q k a, hP h' q k = some a → a < hN h) : Wd G h' caps ad bk H1 :=
  Wd.upd h1 h2 (lvk_main hq) p1 d1 h1N h1T (by rw [enn_main, he]) (fun k' hk' _ => enn_ne hk' hoth) href (by rw [hRR]; exact b2) b3
theorem JS.ia {M : MI} {brk cont pc pc1 pc2 pc3 : Nat} {nx : List Nat} {f : Ex (Option Nat)} {g u : Ex Int32} (hf : JX va_rf M 0 pc pc1 [] f) (hg : JX Value.int M 1 pc1 pc2 [] g) (hu : JX Value.int M 2 pc2 pc3 [] u) (d : decode M.2.1 pc3 = .ok (.iastore, 1)) : JS M brk cont pc (pc3 + 1) nx (astI f g u) :=
  (JS.wr3 (op := fun q i v h => if (hT h q).1 = 2 ∧ ¬ i < 0 ∧ i.toNatClampNeg < (hT h q).2 then some (sI h q i.toNatClampNeg v) else none) hf hg hu fun q i v h h' e => by
    try dsimp only at e
    split at e
    · rename_i ht
      cases e
      refine ⟨rfl, rfl, fun G X C H locs ls caps ad bk cells slots st hW hv hS kk => ?_⟩
      have hq := hW.lt (q := q) (by omega)
      obtain ⟨⟨ws, pos, hP', hD, h1, h2⟩, b1, b2, b3⟩ := hW
      have e := h1 (2 * q) (lvk_main hq)
      rw [enn_main, ekk_ia ht.1] at e
      refine va_iast C.1 C.2.1 C.2.2.2.2.2.1.1 hP' hD hS (pos (2 * q)) 0 e rfl (ixOk.vp ht.2) d fun H1 l1 p1 d1 s1 => kk H1 l1 (arr_wd (h' := sI h q i.toNatClampNeg v) b1 b2 b3 h1 h2 hq p1 d1 rfl rfl ?_ oth_sI rfl b1) s1
      rw [ekk_ia (by exact ht.1)]
      show Sum.inl (_, _, Sum.inl (u2 (hI h) q i.toNatClampNeg v q)) = _
      rw [u2_eq]
      rfl
    · cases e).cg (by
      funext env h
      unfold astI
      congr 1; funext r; congr 1; funext r2; congr 1; funext r3
      cases r.1 with
      | none => rfl
      | some q => dsimp only; split <;> rfl)
theorem JS.za {M : MI} {brk cont pc pc1 pc2 pc3 : Nat} {nx : List Nat} {f : Ex (Option Nat)} {g u : Ex Int32} (hf : JX va_rf M 0 pc pc1 [] f) (hg : JX Value.int M 1 pc1 pc2 [] g) (hu : JX Value.int M 2 pc2 pc3 [] u) (d : decode M.2.1 pc3 = .ok (.bastore, 1)) : JS M brk cont pc (pc3 + 1) nx (astZ f g u) :=
  (JS.wr3 (op := fun q i v h => if (hT h q).1 = 4 ∧ ¬ i < 0 ∧ i.toNatClampNeg < (hT h q).2 ∧ (v = 0 ∨ v = 1) then some (sI h q i.toNatClampNeg v) else none) hf hg hu fun q i v h h' e => by
    try dsimp only at e
    split at e
    · rename_i ht
      cases e
      refine ⟨rfl, rfl, fun G X C H locs ls caps ad bk cells slots st hW hv hS kk => ?_⟩
      have hq := hW.lt (q := q) (by omega)
      obtain ⟨⟨ws, pos, hP', hD, h1, h2⟩, b1, b2, b3⟩ := hW
      have e := h1 (2 * q) (lvk_main hq)
      rw [enn_main, ekk_za ht.1] at e
      refine va_zast C.1 C.2.1 C.2.2.2.2.2.1.1 hP' hD hS (pos (2 * q)) 2 e rfl (ixOk.vp ⟨ht.2.1, ht.2.2.1⟩) d fun H1 l1 p1 d1 s1 => kk H1 l1 (arr_wd (h' := sI h q i.toNatClampNeg v) b1 b2 b3 h1 h2 hq p1 d1 rfl rfl ?_ oth_sI rfl b1) s1
      rw [ekk_za (by exact ht.1)]
      show Sum.inl (_, _, Sum.inl (u2 (hI h) q i.toNatClampNeg v q)) = _
      rw [u2_eq, show vp_nar .boolean v = v by rcases ht.2.2.2 with z | z <;> rw [z] <;> rfl]
      rfl
    · cases e).cg (by
      funext env h
      unfold astZ
      congr 1; funext r; congr 1; funext r2; congr 1; funext r3
      cases r.1 with
      | none => rfl
      | some q => dsimp only; split <;> rfl)
theorem JS.la {M : MI} {brk cont pc pc1 pc2 pc3 : Nat} {nx : List Nat} {f : Ex (Option Nat)} {g : Ex Int32} {u : Ex Int64} (hf : JX va_rf M 0 pc pc1 [] f) (hg : JX Value.int M 1 pc1 pc2 [] g) (hu : JX Value.long M 2 pc2 pc3 [] u) (d : decode M.2.1 pc3 = .ok (.lastore, 1)) : JS M brk cont pc (pc3 + 1) nx (astL f g u) :=
  (JS.wr3 (op := fun q i v h => if (hT h q).1 = 3 ∧ ¬ i < 0 ∧ i.toNatClampNeg < (hT h q).2 then some (sL h q i.toNatClampNeg v) else none) hf hg hu fun q i v h h' e => by
    try dsimp only at e
    split at e
    · rename_i ht
      cases e
      refine ⟨rfl, rfl, fun G X C H locs ls caps ad bk cells slots st hW hv hS kk => ?_⟩
      have hq := hW.lt (q := q) (by omega)
      obtain ⟨⟨ws, pos, hP', hD, h1, h2⟩, b1, b2, b3⟩ := hW
      have e := h1 (2 * q) (lvk_main hq)
      rw [enn_main, ekk_la ht.1] at e
      refine va_last C.1 C.2.1 C.2.2.2.2.2.1.1 hP' hD hS (pos (2 * q)) 1 e rfl (ixOk.vp ht.2) d fun H1 l1 p1 d1 s1 => kk H1 l1 (arr_wd (h' := sL h q i.toNatClampNeg v) b1 b2 b3 h1 h2 hq p1 d1 rfl rfl ?_ oth_sL rfl b1) s1
      rw [ekk_la (by exact ht.1)]
      show Sum.inl (_, _, Sum.inr (Sum.inl (u2 (hL h) q i.toNatClampNeg v q))) = _
      rw [u2_eq]
      rfl
    · cases e).cg (by
      funext env h
      unfold astL
      congr 1; funext r; congr 1; funext r2; congr 1; funext r3
      cases r.1 with
      | none => rfl
      | some q => dsimp only; split <;> rfl)
theorem JS.ra {M : MI} {brk cont pc pc1 pc2 pc3 : Nat} {nx : List Nat} {f : Ex (Option Nat)} {g : Ex Int32} {u : Ex (Option Nat)} (hc9 : ClF 9) (hf : JX va_rf M 0 pc pc1 [] f) (hg : JX Value.int M 1 pc1 pc2 [] g) (hu : JX va_rf M 2 pc2 pc3 [] u) (d : decode M.2.1 pc3 = .ok (.aastore, 1)) : JS M brk cont pc (pc3 + 1) nx (astR f g u) :=
  (JS.wr3 (op := fun q i v h => match v with
      | some a => if (hT h q).1 = 5 ∧ (¬ i < 0 ∧ i.toNatClampNeg < (hT h q).2) ∧ hT h a = (0, 9) then some (sP h q i.toNatClampNeg (some a)) else none
      | none => none) hf hg hu fun q i v h h' e => by
    cases v with
    | none => cases e
    | some a =>
    try dsimp only at e
    split at e
    · rename_i ht
      cases e
      refine ⟨rfl, rfl, fun G X C H locs ls caps ad bk cells slots st hW hv hS kk => ?_⟩
      have hq := hW.lt (q := q) (by omega)
      have hqa := hW.lt (q := a) (by rw [ht.2.2]; simp)
      obtain ⟨⟨ws, pos, hP', hD, h1, h2⟩, b1, b2, b3⟩ := hW
      have e := h1 (2 * q) (lvk_main hq)
      rw [enn_main, ekk_ra ht.1] at e
      have ea := h1 (2 * a) (lvk_main hqa)
      rw [enn_main, ekk_obj ht.2.2] at ea
      refine va_astq (r := (RX9, TX9, 15)) C.1 C.2.1 C.2.2.2.2.2.1.1 hP' hD hS (pos (2 * q)) 3 (pos (2 * a)) 9 e rfl ea rfl (ixOk.vp ht.2.1) d fun H1 l1 p1 d1 s1 => kk H1 l1 (arr_wd (h' := sP h q i.toNatClampNeg (some a)) b1 b2 b3 h1 h2 hq p1 d1 rfl rfl ?_ oth_sP rfl (ref_sP b1 hv)) s1
      rw [ekk_ra (by exact ht.1)]
      show Sum.inl (_, _, Sum.inr (Sum.inr (Sum.inr (Sum.inr (fun j => (u2 (hP h) q i.toNatClampNeg (some a) q j).map (fun a => ad (2 * a))))))) = _
      rw [u2_eq]
      have ef : (fun j => Option.map (fun a => ad (2 * a)) (if j = i.toNatClampNeg then some a else hP h q j)) = va_up (fun j => Option.map (fun a => ad (2 * a)) (hP h q j)) i.toNatClampNeg (some (ad (2 * a))) := by
        funext j
        by_cases ej : j = i.toNatClampNeg
        · simp [va_up, ej]
        · simp [va_up, ej]
      rw [ef]
      rfl
    · cases e).cg (by
      funext env h
      unfold astR
      congr 1; funext r; congr 1; funext r2; congr 1; funext r3
      cases r.1 with
      | none => rfl
      | some q =>
        cases r3.1 with
        | none => rfl
        | some a => dsimp only; split <;> rfl)
