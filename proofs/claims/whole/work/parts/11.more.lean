/-! ===== null, switch, compound writes, Row lengths ===== -/
def nulX (f : Ex (Option Nat)) : Ex Bool := unax (fun x : Option Nat => some x.isNone) f
theorem CJ.null_f {M : MI} {sh tgt pc pc1 : Nat} {nx : List Nat} {f : Ex (Option Nat)} {off : Int} (hf : JX va_rf M sh pc pc1 [] f) (d : decode M.2.1 pc1 = .ok (.ifnonnull off, 3)) (ht : (pc1 : Int) + off = (tgt : Int)) : CJ M false sh tgt pc (pc1 + 3) nx (nulX f) :=
  CJ.una (P := fun x : Option Nat => x.isNone = false) hf (fun x => Iff.rfl) fun x G X C H locs ls ad cells slots st a b => by
    cases x with
    | none => exact lv_ifnonnullN C.1 C.2.1 d (b (by simp))
    | some q => exact lv_ifnonnull C.1 C.2.1 d ht (a rfl)
theorem CJ.null_t {M : MI} {sh tgt pc pc1 : Nat} {nx : List Nat} {f : Ex (Option Nat)} {off : Int} (hf : JX va_rf M sh pc pc1 [] f) (d : decode M.2.1 pc1 = .ok (.ifnull off, 3)) (ht : (pc1 : Int) + off = (tgt : Int)) : CJ M true sh tgt pc (pc1 + 3) nx (nulX f) :=
  CJ.una (P := fun x : Option Nat => x.isNone = true) hf (fun x => Iff.rfl) fun x G X C H locs ls ad cells slots st a b => by
    cases x with
    | none => exact lv_ifnullN C.1 C.2.1 d ht (a rfl)
    | some q => exact lv_ifnull C.1 C.2.1 d (b (by simp))
def swS (f : Ex Int32) (sel : Int32 → St) : St := fun env h => (f env h).bind fun r => (sel r.1 env r.2).bind fun r2 => some (if r2.1 = .inl 1 then .inl 0 else r2.1, r2.2)
/-- where a switch goes with x -/
def TSw (cc : ByteArray) (pc : Nat) (x : Int32) (tgt : Nat) : Prop :=
  (∃ dflt lo hi offs len, decode cc pc = .ok (.tableswitch dflt lo hi offs, len) ∧ (((x.toInt < lo ∨ hi < x.toInt) ∧ (pc : Int) + dflt = (tgt : Int)) ∨ (¬ x.toInt < lo ∧ ¬ hi < x.toInt ∧ ∃ off, offs[(x.toInt - lo).toNat]? = some off ∧ (pc : Int) + off = (tgt : Int)))) ∨
  (∃ dflt ps len off, decode cc pc = .ok (.lookupswitch dflt ps, len) ∧ (ps.toList.zip (ps.toList.drop 1)).all (fun (a, next) => a.1 < next.1) = true ∧ Op.lookupswitch.offset ps.toList dflt x.toInt = off ∧ (pc : Int) + off = (tgt : Int))
theorem JS.sw {M : MI} {brk cont lend pc pc1 pc2 : Nat} {nx : List Nat} {f : Ex Int32} {sel : Int32 → St} (hf : JX Value.int M 0 pc pc1 [] f) (hs : ∀ x, ∃ tgt pcx, TSw M.2.1 pc1 x tgt ∧ JS M lend cont tgt pcx [] (sel x) ∧ Dead (sel x)) (hl : lend = pc2 ∨ lend ∈ nx) : JS M brk cont pc pc2 nx (swS f sel) := by
  intro env h r env' h' e κ hκ
  obtain ⟨⟨x, h1⟩, e1, e⟩ := Option.bind_eq_some_iff.mp e
  obtain ⟨⟨r2, env2, h2⟩, e2, e⟩ := Option.bind_eq_some_iff.mp e
  cases e
  obtain ⟨κ1, g1, l1, k1⟩ := hf env h x h1 e1 κ hκ
  obtain ⟨tgt, pcx, T, J, hd⟩ := hs x
  obtain ⟨κ2, g2, l2, k2⟩ := J env h1 r2 _ _ e2 κ1 g1
  have hnd := hd _ _ _ e2
  refine ⟨κ2, g2, kle_tr l1 l2, fun G X C hE A B D E => k1 G X C (kle_tr l2 hE) [] rfl fun t ht => ?_⟩
  rcases ht with rfl | ht
  · have W2 : AWg G X M.2.2.1 tgt env [] h1 κ1 := by
      refine k2 G X C hE (fun q => absurd q hnd) (fun q => ?_) (fun q => ?_) (fun v q => ?_)
      · exact A (by rw [if_pos q]) lend hl
      · exact D (by rw [q]; rfl)
      · exact E v (by rw [q]; rfl)
    intro H locs ls ad bk cells slots hW hL hEn hV hS hn0 had hcc hsl
    have W3 := W2 H locs ls ad bk cells slots hW hL hEn (fun v hv => by cases hv) hS hn0 had hcc hsl
    rcases T with ⟨dflt, lo, hi, offs, len, d, ⟨o, t⟩ | ⟨o1, o2, off, o3, t⟩⟩ | ⟨dflt, ps, len, off, d, o1, o2, t⟩
    · exact lv_tableOut C.1 C.2.1 d o t W3
    · exact lv_tableIn C.1 C.2.1 d o1 o2 o3 t W3
    · exact lv_lookup C.1 C.2.1 d o1 o2 t W3
  · cases ht
/-! a field changed by what it was -/
def updI (c k : Nat) (op : Int32 → Int32 → Int32) (f : Ex (Option Nat)) (g : Ex Int32) : St := fun env h => (f env h).bind fun r => match r.1 with
  | some q => if hT r.2 q = (0, c) then (g env r.2).bind fun r2 => if hT r2.2 q = (0, c) then some (.inl 0, env, sI r2.2 q k (op (hI r.2 q k) r2.1)) else none else none
  | none => none
theorem JS.upd {M : MI} {brk cont pc pc1 pc2 c k i : Nat} {nx : List Nat} {op : Int32 → Int32 → Int32} {f : Ex (Option Nat)} {g : Ex Int32} (hf : JX va_rf M 0 pc pc1 [] f) (d1 : decode M.2.1 pc1 = .ok (.dup, 1)) (hc : ClF c) (hk : k < vwN c) (hy : vwY c k = .int) (w : FLk M.1 i c k) (wf : FPk M i c k) (d2 : decode M.2.1 (pc1 + 1) = .ok (.getfield i, 3)) (hg : JX Value.int M 2 (pc1 + 4) pc2 [] g)
    (hop : ∀ G X, CCx M G X → ∀ H locs ls cells slots (st : List Value) x y, wX X H locs cells slots (F0 X.2.1.2.1 (pc2 + 1) ls (.int (op x y) :: st)) → wX X H locs cells slots (F0 X.2.1.2.1 pc2 ls (.int y :: .int x :: st))) (d3 : decode M.2.1 (pc2 + 1) = .ok (.putfield i, 3)) : JS M brk cont pc (pc2 + 4) nx (updI c k op f g) := by
  intro env h r env' h' e κ hκ
  obtain ⟨⟨x, h1⟩, e1, e⟩ := Option.bind_eq_some_iff.mp e
  cases x with
  | none => cases e
  | some q =>
    dsimp only at e
    split at e
    · rename_i ht1
      obtain ⟨⟨y, h2⟩, e2, e⟩ := Option.bind_eq_some_iff.mp e
      dsimp only at e
      split at e
      · rename_i ht2
        cases e
        obtain ⟨κ1, g1, l1, k1⟩ := hf env h (some q) h1 e1 κ hκ
        obtain ⟨κ2, g2, l2, k2⟩ := hg env h1 y h2 e2 κ1 g1
        refine ⟨κ2, g2.same rfl rfl, kle_tr l1 l2, fun G X C hE A _ _ _ => k1 G X C (kle_tr l2 hE) [] rfl fun t ht => ?_⟩
        rcases ht with rfl | ht
        · have W2 : AWg G X M.2.2.1 (t + 4) env [.int (hI h1 q k), va_rf (some q)] h1 κ1 := by
            refine k2 G X C hE [.int (hI h1 q k), va_rf (some q)] rfl fun t' ht' => ?_
            rcases ht' with rfl | ht'
            · intro H locs ls ad bk cells slots hW hL hEn hV hS hn0 had hcc hsl
              refine hop G X C H locs ls cells slots _ _ _ ?_
              exact put_row (h' := sI h2 q k (op (hI h1 q k) y)) hc hk w wf d3 C hW ht2 (v := .int (op (hI h1 q k) y)) (by rw [hy]; rfl) (by rw [hy]; rfl) rfl rfl (fvl_sI (by rw [hy]; rfl)) (fun j hj => fvl_sI_ne hj) oth_sI rfl hW.2.1 hS (fun H1 l1 a b => A rfl _ (Or.inl rfl) H1 l1 ls ad bk cells slots a hL hEn (fun v hv => by cases hv) b hn0 had hcc hsl)
            · cases ht'
          intro H locs ls ad bk cells slots hW hL hEn hV hS hn0 had hcc hsl
          refine lv_dup C.1 C.2.1 d1 rfl ?_
          refine get_row hc hk w d2 C hW ht1 ?_
          rw [show fvl h1 ad q c k = Value.int (hI h1 q k) by simp [fvl, hy, fkd]]
          exact W2 H locs ls ad bk cells slots hW hL hEn (fun v hv => by
            rcases List.mem_cons.mp hv with rfl | hv
            · exact vok_int
            · exact hV v hv) hS hn0 had hcc hsl
        · cases ht
      · cases e
    · cases e
theorem JS.upA {M : MI} {brk cont pc pc1 pc2 c k i : Nat} {nx : List Nat} {f : Ex (Option Nat)} {g : Ex Int32} (hf : JX va_rf M 0 pc pc1 [] f) (d1 : decode M.2.1 pc1 = .ok (.dup, 1)) (hc : ClF c) (hk : k < vwN c) (hy : vwY c k = .int) (w : FLk M.1 i c k) (wf : FPk M i c k) (d2 : decode M.2.1 (pc1 + 1) = .ok (.getfield i, 3)) (hg : JX Value.int M 2 (pc1 + 4) pc2 [] g) (d4 : decode M.2.1 pc2 = .ok (.iadd, 1)) (d3 : decode M.2.1 (pc2 + 1) = .ok (.putfield i, 3)) : JS M brk cont pc (pc2 + 4) nx (updI c k (fun x y => x + y) f g) :=
  JS.upd hf d1 hc hk hy w wf d2 hg (fun G X C H locs ls cells slots st x y kk => lv_iadd C.1 C.2.1 d4 kk) d3
theorem JS.upS {M : MI} {brk cont pc pc1 pc2 c k i : Nat} {nx : List Nat} {f : Ex (Option Nat)} {g : Ex Int32} (hf : JX va_rf M 0 pc pc1 [] f) (d1 : decode M.2.1 pc1 = .ok (.dup, 1)) (hc : ClF c) (hk : k < vwN c) (hy : vwY c k = .int) (w : FLk M.1 i c k) (wf : FPk M i c k) (d2 : decode M.2.1 (pc1 + 1) = .ok (.getfield i, 3)) (hg : JX Value.int M 2 (pc1 + 4) pc2 [] g) (d4 : decode M.2.1 pc2 = .ok (.isub, 1)) (d3 : decode M.2.1 (pc2 + 1) = .ok (.putfield i, 3)) : JS M brk cont pc (pc2 + 4) nx (updI c k (fun x y => x - y) f g) :=
  JS.upd hf d1 hc hk hy w wf d2 hg (fun G X C H locs ls cells slots st x y kk => lv_isub C.1 C.2.1 d4 kk) d3
/-- a[i]++ -/
def incA (f : Ex (Option Nat)) (g : Ex Int32) (n : Int32) : St := fun env h => (f env h).bind fun r => (g env r.2).bind fun r2 => match r.1 with
  | some q => if (hT r2.2 q).1 = 2 ∧ ¬ r2.1 < 0 ∧ r2.1.toNatClampNeg < (hT r2.2 q).2 then some (.inl 0, env, sI r2.2 q r2.1.toNatClampNeg (hI r2.2 q r2.1.toNatClampNeg + n)) else none
  | none => none
theorem JS.inA {M : MI} {brk cont pc pc1 pc2 : Nat} {nx : List Nat} {f : Ex (Option Nat)} {g : Ex Int32} (hf : JX va_rf M 0 pc pc1 [] f) (hg : JX Value.int M 1 pc1 pc2 [] g) (d1 : decode M.2.1 pc2 = .ok (.dup2, 1)) (d2 : decode M.2.1 (pc2 + 1) = .ok (.iaload, 1)) (d3 : decode M.2.1 (pc2 + 2) = .ok (.iconst 1, 1)) (d4 : decode M.2.1 (pc2 + 3) = .ok (.iadd, 1)) (d5 : decode M.2.1 (pc2 + 4) = .ok (.iastore, 1)) : JS M brk cont pc (pc2 + 5) nx (incA f g 1) := by
  intro env h r env' h' e κ hκ
  obtain ⟨⟨x, h1⟩, e1, e⟩ := Option.bind_eq_some_iff.mp e
  obtain ⟨⟨i, h2⟩, e2, e⟩ := Option.bind_eq_some_iff.mp e
  cases x with
  | none => cases e
  | some q =>
    dsimp only at e
    split at e
    · rename_i ht
      cases e
      obtain ⟨κ1, g1, l1, k1⟩ := hf env h (some q) h1 e1 κ hκ
      obtain ⟨κ2, g2, l2, k2⟩ := hg env h1 i h2 e2 κ1 g1
      refine ⟨κ2, g2.same rfl rfl, kle_tr l1 l2, fun G X C hE A _ _ _ => k1 G X C (kle_tr l2 hE) [] rfl fun t ht' => ?_⟩
      rcases ht' with rfl | ht'
      · refine k2 G X C hE [va_rf (some q)] rfl fun t' ht' => ?_
        rcases ht' with rfl | ht'
        · intro H locs ls ad bk cells slots hW hL hEn hV hS hn0 had hcc hsl
          have hq := hW.lt (q := q) (by omega)
          obtain ⟨⟨ws, pos, hP', hD, p1, p2⟩, b1, b2, b3⟩ := hW
          have e := p1 (2 * q) (lvk_main hq)
          rw [enn_main, ekk_ia ht.1] at e
          refine lv_dup2_11 C.1 C.2.1 d1 rfl rfl ?_
          refine va_iald C.1 C.2.1 C.2.2.2.2.2.1.1 hP' (pos (2 * q)) 0 e rfl (ixOk.vp ht.2) d2 ?_
          refine lv_iconst (v := 1) C.1 C.2.1 d3 rfl ?_
          refine lv_iadd C.1 C.2.1 d4 ?_
          refine va_iast C.1 C.2.1 C.2.2.2.2.2.1.1 hP' hD hS (pos (2 * q)) 0 e rfl (ixOk.vp ht.2) d5 fun H1 l1 pp dd ss => A rfl _ (Or.inl rfl) H1 l1 ls ad bk cells slots (arr_wd (h' := sI h2 q i.toNatClampNeg (hI h2 q i.toNatClampNeg + 1)) b1 b2 b3 p1 p2 hq pp dd rfl rfl ?_ oth_sI rfl b1) hL hEn (fun v hv => by cases hv) ss hn0 had hcc hsl
          rw [ekk_ia (by exact ht.1)]
          show Sum.inl (_, _, Sum.inl (u2 (hI h2) q i.toNatClampNeg _ q)) = _
          rw [u2_eq]
          rfl
        · cases ht'
      · cases ht'
    · cases e
/-! the length of a Row is set: it becomes shorter -/
def rszS (f : Ex (Option Nat)) (g : Ex Int32) : St := fun env h => (f env h).bind fun r => (g env r.2).bind fun r2 => match r.1 with
  | some q => if (hT r2.2 q).1 = 1 ∧ ¬ r2.1 < 0 ∧ r2.1.toNatClampNeg ≤ (hR r2.2 q).length then some (.inl 0, env, sR r2.2 q ((hR r2.2 q).take r2.1.toNatClampNeg)) else none
  | none => none
theorem oth_sR {h : AH} {q : Nat} {v : List Int32} : ∀ q', q' ≠ q → hT (sR h q v) q' = hT h q' ∧ hI (sR h q v) q' = hI h q' ∧ hL (sR h q v) q' = hL h q' ∧ hP (sR h q v) q' = hP h q' ∧ hR (sR h q v) q' = hR h q' := fun q' hq' => ⟨rfl, rfl, rfl, rfl, u1_ne hq'⟩
theorem JS.rsz {M : MI} {brk cont pc pc1 pc2 i : Nat} {nx : List Nat} {f : Ex (Option Nat)} {g : Ex Int32} (hf : JX va_rf M 0 pc pc1 [] f) (hg : JX Value.int M 1 pc1 pc2 [] g) (hc : ClF 5) (w : Cond.fieldLink M.1 i (vwT 5 1).1 (vwT 5 1).2.1 (vwT 5 1).2.2.1 ∈ GW) (d : decode M.2.1 pc2 = .ok (.putfield i, 3)) : JS M brk cont pc (pc2 + 3) nx (rszS f g) :=
  (JS.wr (op := fun q v h => if (hT h q).1 = 1 ∧ ¬ v < 0 ∧ v.toNatClampNeg ≤ (hR h q).length then some (sR h q ((hR h q).take v.toNatClampNeg)) else none) hf hg fun q v h h' e => by
    try dsimp only at e
    split at e
    · rename_i ht
      cases e
      refine ⟨rfl, rfl, fun G X C H locs ls caps ad bk cells slots st hW hv hS kk => ?_⟩
      have hq := hW.lt (q := q) (by omega)
      obtain ⟨⟨ws, pos, hP', hD, p1, p2⟩, b1, b2, b3⟩ := hW
      have e := p1 (2 * q) (lvk_main hq)
      rw [enn_main, ekk_row ht.1] at e
      obtain ⟨c1, c2, c3⟩ := b2 q hq ht.1
      refine va_put C.1 C.2.1 (Ts := GW) C.2.2.2.2.1 hc.2.1 (vwY 5) hc.2.2.1 hc.2.2.2.1 C.2.2.2.1 C.2.2.2.2.2.1.1 hP' hD hS (pos (2 * q)) e hc.1 1 (by decide) (C.2.2.2.2.1 _ w) (fun _ z => z) rfl (hc.2.2.1 1 (by decide)) (v := .int v) rfl rfl (by simp) d fun H1 l1 pp dd ss => kk H1 l1 bk (Wd.upd p1 p2 (lvk_main hq) pp dd rfl rfl ?_ (fun k' hk' _ => enn_ne hk' oth_sR) b1 (fun q' hq' hr' => ?_) b3) ss
      · rw [enn_main, ekk_row (by exact ht.1)]
        have e1 : hR (sR h q ((hR h q).take v.toNatClampNeg)) q = (hR h q).take v.toNatClampNeg := u1_eq
        rw [e1, List.length_take, Nat.min_eq_left ht.2.2]
        have e2 : nI v.toNatClampNeg = v := by
          obtain ⟨j, hj, rfl⟩ := nI_of ht.2.1
          rw [nI_clamp hj]
        rw [e2]
        rfl
      · by_cases eq : q' = q
        · subst eq
          have e1 : hR (sR h q' ((hR h q').take v.toNatClampNeg)) q' = (hR h q').take v.toNatClampNeg := u1_eq
          rw [e1, List.length_take, Nat.min_eq_left ht.2.2]
          refine ⟨by omega, c2, fun i hi => ?_⟩
          rw [c3 i (by omega), List.getD_eq_getElem?_getD, List.getD_eq_getElem?_getD, List.getElem?_take, if_pos hi]
        · have e1 : hR (sR h q ((hR h q).take v.toNatClampNeg)) q' = hR h q' := u1_ne eq
          rw [e1]
          exact b2 q' hq' hr'
    · cases e).cg (by
      funext env h
      unfold rszS
      congr 1; funext r; congr 1; funext r2
      cases r.1 with
      | none => rfl
      | some q => dsimp only; split <;> rfl)
