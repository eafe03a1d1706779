/-! ===== the abstract heap: addresses are numerals in the order of making; a Row is one cell ===== -/
abbrev AH : Type := Nat × (Nat → Nat × Nat) × (Nat → Nat → Int32) × (Nat → Nat → Int64) × (Nat → Nat → Option Nat) × (Nat → List Int32)
def hN (h : AH) : Nat := h.1
/-- kind and number of a cell: (0, class), (1, limit of a Row), (2, ints), (3, longs), (4, booleans), (5, States) -/
def hT (h : AH) : Nat → Nat × Nat := h.2.1
def hI (h : AH) : Nat → Nat → Int32 := h.2.2.1
def hL (h : AH) : Nat → Nat → Int64 := h.2.2.2.1
def hP (h : AH) : Nat → Nat → Option Nat := h.2.2.2.2.1
def hR (h : AH) : Nat → List Int32 := h.2.2.2.2.2
def u1 {α : Type} (f : Nat → α) (q : Nat) (v : α) : Nat → α := fun a => if a = q then v else f a
def u2 {α : Type} (f : Nat → Nat → α) (q k : Nat) (v : α) : Nat → Nat → α := fun a b => if a = q ∧ b = k then v else f a b
def sI (h : AH) (q k : Nat) (v : Int32) : AH := (h.1, h.2.1, u2 h.2.2.1 q k v, h.2.2.2)
def sL (h : AH) (q k : Nat) (v : Int64) : AH := (h.1, h.2.1, h.2.2.1, u2 h.2.2.2.1 q k v, h.2.2.2.2)
def sP (h : AH) (q k : Nat) (v : Option Nat) : AH := (h.1, h.2.1, h.2.2.1, h.2.2.2.1, u2 h.2.2.2.2.1 q k v, h.2.2.2.2.2)
def sR (h : AH) (q : Nat) (v : List Int32) : AH := (h.1, h.2.1, h.2.2.1, h.2.2.2.1, h.2.2.2.2.1, u1 h.2.2.2.2.2 q v)
def hNew (h : AH) (t : Nat × Nat) : AH := (h.1 + 1, u1 h.2.1 h.1 t, u1 h.2.2.1 h.1 (fun _ => 0), u1 h.2.2.2.1 h.1 (fun _ => 0), u1 h.2.2.2.2.1 h.1 (fun _ => none), u1 h.2.2.2.2.2 h.1 [])
/-! ===== classes by their numbers ===== -/
def vwT (c : Nat) : u_T := match c with
  | 0 => TX0 | 1 => TX1 | 2 => TX2 | 3 => TX3 | 4 => TX4 | 5 => TX5 | 6 => TX6 | 7 => TX7 | 8 => TX8 | 9 => TX9 | 10 => TX10 | 11 => TX11 | _ => TX12
def vwN (c : Nat) : Nat := match c with
  | 0 => 2 | 1 => 2 | 2 => 3 | 3 => 8 | 4 => 13 | 5 => 2 | 6 => 6 | 7 => 6 | 8 => 3 | 9 => 15 | 10 => 19 | 11 => 10 | _ => 69
def vwR (c : Nat) : String := match c with
  | 0 => RX0 | 1 => RX1 | 2 => RX2 | 3 => RX3 | 4 => RX4 | 5 => RX5 | 6 => RX6 | 7 => RX7 | 8 => RX8 | 9 => RX9 | 10 => RX10 | 11 => RX11 | _ => RX12
def vwY (c : Nat) : Nat → FieldType := match c with
  | 0 => tyX0 | 1 => tyX1 | 2 => tyX2 | 3 => tyX3 | 4 => tyX4 | 5 => tyX5 | 6 => tyX6 | 7 => tyX7 | 8 => tyX8 | 9 => tyX9 | 10 => tyX10 | 11 => tyX11 | _ => tyX12
abbrev vwCl : List vw_C := [(RX0, TX0, 2), (RX1, TX1, 2), (RX2, TX2, 3), (RX3, TX3, 8), (RX4, TX4, 13), (RX5, TX5, 2), (RX6, TX6, 6), (RX7, TX7, 6), (RX8, TX8, 3), (RX9, TX9, 15), (RX10, TX10, 19), (RX11, TX11, 10), (RX12, TX12, 69)]
/-- the words that every method takes: the tables' own that stay -/
def GW : List Cond := lw_tbl.filter goodWord
/-- what is known of a class by its number -/
def ClF (c : Nat) : Prop := vwCl[c]? = some (vwR c, vwT c, vwN c) ∧ (∀ w ∈ u_ws (vwR c) (vwT c) (vwN c), w ∈ GW) ∧ (∀ k, k < vwN c → parseFieldDescriptor (vwT c k).2.2.1 = some (vwY c k)) ∧ (∀ a, a < vwN c → ∀ b, b < vwN c → a ≠ b → (vwT c a).2.1 ≠ (vwT c b).2.1) ∧ (∀ k, k < vwN c → (vwT c k).1 = vwR c)
/-- the kind of a field: 0 an int or boolean, 1 a long, 2 a reference -/
def fkd (t : FieldType) : Nat := match t with
  | .int => 0 | .boolean => 0 | .long => 1 | _ => 2
def fvl (h : AH) (ad : Nat → Nat) (q c k : Nat) : Value := if fkd (vwY c k) = 0 then .int (hI h q k) else if fkd (vwY c k) = 1 then .long (hL h q k) else va_rf ((hP h q k).map (fun a => ad (2 * a)))
def flds (h : AH) (ad : Nat → Nat) (q c : Nat) : List Value := (List.range (vwN c)).map (fvl h ad q c)
/-! ===== the world: which real cells hold an abstract heap ===== -/
/-- class ids and slots; the ids of the four array classes; where the cells of the run begin -/
abbrev GX : Type := va_G × (Nat → ClassId) × Nat
def ekk (G : GX) (h : AH) (ad : Nat → Nat) (q : Nat) : va_E :=
  if (hT h q).1 = 0 then .inr ((hT h q).2, flds h ad q (hT h q).2)
  else if (hT h q).1 = 1 then .inr (5, [.ref (ad (2 * q + 1)), .int (nI (hR h q).length)])
  else if (hT h q).1 = 2 then .inl (G.2.1 0, (hT h q).2, .inl (hI h q))
  else if (hT h q).1 = 3 then .inl (G.2.1 1, (hT h q).2, .inr (.inl (hL h q)))
  else if (hT h q).1 = 4 then .inl (G.2.1 2, (hT h q).2, .inl (hI h q))
  else .inl (G.2.1 3, (hT h q).2, .inr (.inr (.inr (.inr (fun j => (hP h q j).map (fun a => ad (2 * a)))))))
/-- the cell of a key: 2 q the cell q itself, 2 q + 1 the ints of the Row q -/
def enn (G : GX) (h : AH) (caps : Nat → Nat) (ad : Nat → Nat) (bk : Nat → Nat → Int32) (k : Nat) : Nat × va_E :=
  (ad k, if k % 2 = 0 then ekk G h ad (k / 2) else .inl (G.2.1 0, caps (k / 2), .inl (bk (k / 2))))
def lvk (h : AH) (k : Nat) : Prop := k / 2 < hN h ∧ (k % 2 = 1 → (hT h (k / 2)).1 = 1)
def aBs (G : GX) : Nat → Prop := fun x => G.2.2 ≤ x
def Wd (G : GX) (h : AH) (caps : Nat → Nat) (ad : Nat → Nat) (bk : Nat → Nat → Int32) (H : Heap) : Prop :=
  (∃ (ws : va_W) (pos : Nat → Nat), va_P G.1 vwCl ws H ∧ va_D (aBs G) ws ∧ (∀ k, lvk h k → ws[pos k]? = some (enn G h caps ad bk k)) ∧ ∀ k k', lvk h k → lvk h k' → pos k = pos k' → k = k') ∧
  (∀ q k a, hP h q k = some a → a < hN h) ∧ (∀ q, q < hN h → (hT h q).1 = 1 → (hR h q).length ≤ caps q ∧ caps q < 2 ^ 30 ∧ ∀ i, i < (hR h q).length → bk q i = (hR h q).getD i 0) ∧ (∀ q, hN h ≤ q → (hT h q).1 = 9)
/-- a value, its references real -/
def cvv (ad : Nat → Nat) (v : Value) : Value := match v with
  | .ref a => .ref (ad (2 * a))
  | v => v
def vok (n : Nat) (v : Value) : Prop := ∀ a, v = .ref a → a < n
theorem cvv_rf (ad : Nat → Nat) (r : Option Nat) : cvv ad (va_rf r) = va_rf (r.map (fun a => ad (2 * a))) := by cases r <;> rfl
theorem cvv_cat (ad : Nat → Nat) (v : Value) : (cvv ad v).category = v.category := by cases v <;> rfl
/-! ===== the context of a walk, one tuple ===== -/
/-- ghost: capacities of the Rows, cells and slots made so far, abstract cells -/
abbrev KP : Type := (Nat → Nat) × Nat × Nat × Nat
def kle (a b : KP) : Prop := a.2.1 ≤ b.2.1 ∧ a.2.2.1 ≤ b.2.2.1 ∧ a.2.2.2 ≤ b.2.2.2
abbrev CX : Type := (Program × Launch × Env × Room) × (State × MethodId × Array Value × List Frame) × (Method × Code × (State → Prop)) × (KP × KP × (Nat → Nat) × Nat)
abbrev wX (X : CX) (H : Heap) (locs : List Loc) (cells slots : Nat) (g : JFrame) : Prop := W X.1.1 X.1.2.1 X.1.2.2.1 X.1.2.2.2 X.2.1.1 X.2.1.2.1 X.2.1.2.2.1 X.2.1.2.2.2 X.2.2.1.1 X.2.2.1.2.1 H locs cells slots X.2.2.1.2.2 g
/-- a method: its class, its bytes, its locals, how many frames may stand with it, whether it is a constructor -/
abbrev MI : Type := String × ByteArray × Nat × Nat × Bool
abbrev tyG (G : GX) : List (ClassId × FieldType) := [(G.2.1 0, .int), (G.2.1 1, .long), (G.2.1 2, .boolean), (G.2.1 3, .object RX9)]
/-- the words of nest mates: they stay too, by a way of their own -/
def nstW : Cond → Bool
  | .fieldLinkNest .. => true
  | .methodLinkNest .. => true
  | _ => false
def NW : List Cond := lw_tbl.filter nstW
def NWk (U : State) : Prop := ∀ w ∈ NW, va_Nw w U
theorem NWk.warm {s U : State} (hW : s.WarmedH U.vm) (h : NWk s) : NWk U := fun w hw => by
  have h1 := h w hw
  have h2 := (List.mem_filter.mp hw).2
  cases w <;> first | (exact h1.warmF hW) | (exact va_Nw.warmF hW h1) | (exact va_Nw.warmM hW h1) | (cases h2)
theorem NWk.same {s U : State} (hv : s.vm = U.vm) (h : NWk s) : NWk U := fun w hw => by
  have h1 := h w hw
  have h2 := (List.mem_filter.mp hw).2
  cases w <;> first | (exact va_Nw.same rfl hv h1) | (cases h2)
/-- a static row of ten numbers -/
def stF (G : GX) (n : String) (f : List Int32) (U : State) (H : Heap) : Prop := ∃ t, va_Z RX11 n "[I" (.ref t) (aBs G) U H ∧ va_T .int t 10 (fun j => .int (f.getD j 0)) (aBs G) U H
def nLst : List Int32 := [60, 1, 1, 1, 30, 1, 0, 1, 0, 0]
def nMst : List Int32 := [200, 16, 30, 60, 60, 8, 4, 6, 99, 100]
def nWto : List Int32 := [0, 4, 3, 8, 30, 4, 2, 2, 0, 0]
def kTW : Nat := 67
def txW : String := "box   windowleast normalmost  segs  champsdesk  keep  rot   borderhook  clean day   sum   lengthbyte  print place live  dead  age   min   max   if    not   all   and   or    "
def byW : List Int32 := txW.toList.map fun c => Int32.ofNat c.toNat
/-- what is given of statics and of the words' text -/
def SFk (G : GX) (U : State) (H : Heap) : Prop := stF G "NUMBER_LEAST" nLst U H ∧ stF G "NUMBER_MOST" nMst U H ∧ stF G "NUMBER_WITHOUT" nWto U H ∧ (∃ a b, vk_R RX4 kTW txW a U ∧ vk_S 1 [174] [byW] (fun _ => a) (fun _ => b) (aBs G) U H) ∧ va_Z "java/lang/String" "COMPACT_STRINGS" "Z" (.int 1) (aBs G) U H ∧ va_Zq "jdk/internal/util/Preconditions" "SIOOBE_FORMATTER" "Ljava/util/function/BiFunction;" (aBs G) U H
theorem stF.next {G : GX} {n : String} {f : List Int32} {s U : State} {H H1 : Heap} (hv : s.vm.Alike U.vm) (hq : ∀ a : Nat, a < H.size → ¬ aBs G a → H1[a]? = H[a]?) (h : stF G n f s H) : stF G n f U H1 := by
  obtain ⟨t, h1, h2⟩ := h
  exact ⟨t, (h1.kept hq).moved hv, (h2.kept hq).moved hv⟩
theorem SFk.next {G : GX} {s U : State} {H H1 : Heap} (hW : s.WarmedH U.vm) (hq : ∀ a : Nat, a < H.size → ¬ aBs G a → H1[a]? = H[a]?) (h : SFk G s H) : SFk G U H1 := by
  obtain ⟨h1, h2, h3, ⟨a, b, h4, h5⟩, h6, h7⟩ := h
  have hv := hW.alike
  exact ⟨h1.next hv hq, h2.next hv hq, h3.next hv hq, ⟨a, b, h4.warm hW, (h5.kept hq).moved hv⟩, (h6.kept hq).moved hv, va_Zq.moved hv (h7.kept hq)⟩
theorem SFk.same {G : GX} {s U : State} {H : Heap} (hv : s.vm = U.vm) (h : SFk G s H) : SFk G U H := by
  obtain ⟨h1, h2, h3, ⟨a, b, h4, h5⟩, h6, h7⟩ := h
  have hw : s.vm.Alike U.vm := by rw [hv]; exact Vm.Alike.refl U.vm
  exact ⟨h1.next hw (fun _ _ _ => rfl), h2.next hw (fun _ _ _ => rfl), h3.next hw (fun _ _ _ => rfl), ⟨a, b, h4.same hv.symm, h5.moved hw⟩, h6.moved hw, va_Zq.moved hw h7⟩
/-- all that a state of the tables gives, and the statics in a heap -/
def KKx (G : GX) (U : State) (H : Heap) : Prop := va_K G.1 vwCl (tyG G) U ∧ NWk U ∧ va_AO RX9 U ∧ SFk G U H
theorem KKx.next {G : GX} {s U : State} {H H1 : Heap} (hW : s.WarmedH U.vm) (hq : ∀ a : Nat, a < H.size → ¬ aBs G a → H1[a]? = H[a]?) (h : KKx G s H) : KKx G U H1 :=
  ⟨va_K.moved hW.alike h.1, h.2.1.warm hW, va_AO.moved hW.alike h.2.2.1, h.2.2.2.next hW hq⟩
theorem KKx.same {G : GX} {s U : State} {H : Heap} (hv : s.vm = U.vm) (h : KKx G s H) : KKx G U H := by
  have hw : s.vm.Alike U.vm := by rw [hv]; exact Vm.Alike.refl U.vm
  exact ⟨va_K.moved hw h.1, h.2.1.same hv, va_AO.moved hw h.2.2.1, h.2.2.2.same hv⟩
def CCx (M : MI) (G : GX) (X : CX) : Prop :=
  X.1.1.tables.exec = Jvm.exec ∧ X.2.2.1.2.1.code = M.2.1 ∧ X.2.2.1.2.1.maxLocals = M.2.2.1 ∧ X.2.1.1.vm.findClass M.1 = some X.2.1.2.1.cls ∧ (∀ w ∈ GW, w.before X.2.1.2.2.1 X.2.1.1 = true) ∧ KKx G X.2.1.1 X.2.1.1.heap ∧
  M.2.2.2.1 ≤ X.1.2.2.2.frames ∧ 100 * M.2.2.2.1 ≤ X.1.2.2.2.locals ∧ X.1.2.2.2.cells + X.2.2.2.1.2.1 = X.2.2.2.2.1.2.1 ∧ X.1.2.2.2.slots + X.2.2.2.1.2.2.1 = X.2.2.2.2.1.2.2.1 ∧ G.2.2 ≤ X.2.1.1.heap.size ∧ (M.2.2.2.2 = true → X.2.2.1.1.name = "<init>")
/-- the real locals hold the listed ones -/
def Lcs (ls : Array Slot) (nL : Nat) (env : List Slot) (ad : Nat → Nat) : Prop := ls.size = nL ∧ lv_wf ls ∧ ∀ (k : Nat) (v : Value), env[k]? = some (.val v) → ls[k]? = some (.val (cvv ad v))
/-- the walk's goal at an abstract state -/
def AWg (G : GX) (X : CX) (nL pc : Nat) (env : List Slot) (st : List Value) (h : AH) (κ : KP) : Prop :=
  ∀ (H : Heap) (locs : List Loc) (ls : Array Slot) (ad : Nat → Nat) (bk : Nat → Nat → Int32) (cells slots : Nat), Wd G h κ.1 ad bk H → Lcs ls nL env ad → (∀ v, Slot.val v ∈ env → vok (hN h) v) → (∀ v ∈ st, vok (hN h) v) → va_S (aBs G) X.2.1.1.heap H locs →
    X.2.2.2.2.2.2 ≤ hN h → (∀ q, q < X.2.2.2.2.2.2 → ad (2 * q) = X.2.2.2.2.2.1 (2 * q)) → cells + X.2.2.2.1.2.1 = κ.2.1 → slots + X.2.2.2.1.2.2.1 = κ.2.2.1 → wX X H locs cells slots (F0 X.2.1.2.1 pc ls (st.map (cvv ad)))
/-! ===== what is used: a potential ===== -/
def smf (f : Nat → Nat) : Nat → Nat
  | 0 => 0
  | n + 1 => smf f n + f n
def cstS (t : Nat × Nat) (cap : Nat) : Nat := if t.1 = 1 then 2 + (2 * cap - 16) else if t.1 = 0 then vwN t.2 else t.2
def cstC (t : Nat × Nat) (cap : Nat) : Nat := if t.1 = 1 then 1 + cap / 16 else 1
def Gdk (h : AH) (κ : KP) : Prop := (∀ q, q < hN h → (hT h q).1 = 1 → ∃ j J, κ.1 q = 16 * 2 ^ j ∧ (hT h q).2 = 16 * 2 ^ J ∧ j ≤ J ∧ J ≤ 10) ∧ κ.2.1 ≤ smf (fun q => cstC (hT h q) (κ.1 q)) (hN h) ∧ κ.2.2.1 ≤ smf (fun q => cstS (hT h q) (κ.1 q)) (hN h) ∧ κ.2.2.2 = hN h
/-! ===== the judgements ===== -/
abbrev Ex (α : Type) : Type := List Slot → AH → Option (α × AH)
abbrev St : Type := List Slot → AH → Option ((Nat ⊕ Option Value) × List Slot × AH)
def wds (st : List Value) : Nat := (st.map fun v => v.category).sum
/-- an expression: from pc to pc', its value on the stack -/
def JX {α : Type} (inj : α → Value) (M : MI) (sh pc pc' : Nat) (nx : List Nat) (f : Ex α) : Prop :=
  ∀ env h x h', f env h = some (x, h') → ∀ κ, Gdk h κ → ∃ κ', Gdk h' κ' ∧ kle κ κ' ∧ ∀ G X, CCx M G X → kle κ' X.2.2.2.2.1 → ∀ st, wds st = sh → (∀ t, t = pc' ∨ t ∈ nx → AWg G X M.2.2.1 t env (inj x :: st) h' κ') → AWg G X M.2.2.1 pc env st h κ
/-- a condition: to tgt if it is 'sense', else to pc' -/
def CJ (M : MI) (sense : Bool) (sh tgt pc pc' : Nat) (nx : List Nat) (f : Ex Bool) : Prop :=
  ∀ env h b h', f env h = some (b, h') → ∀ κ, Gdk h κ → ∃ κ', Gdk h' κ' ∧ kle κ κ' ∧ ∀ G X, CCx M G X → kle κ' X.2.2.2.2.1 → ∀ st, wds st = sh → (b = sense → AWg G X M.2.2.1 tgt env st h' κ') → (¬ b = sense → ∀ t, t = pc' ∨ t ∈ nx → AWg G X M.2.2.1 t env st h' κ') → AWg G X M.2.2.1 pc env st h κ
def RetD (cc : ByteArray) (pc : Nat) (v : Option Value) : Prop := match v with
  | none => decode cc pc = .ok (.return_, 1)
  | some (.int _) => decode cc pc = .ok (.ireturn, 1)
  | some (.long _) => decode cc pc = .ok (.lreturn, 1)
  | some _ => decode cc pc = .ok (.areturn, 1)
def KRt (M : MI) (G : GX) (X : CX) (v : Option Value) (h : AH) (κ : KP) : Prop := ∀ pc env, RetD M.2.1 pc v → AWg G X M.2.2.1 pc env v.toList h κ
/-- a statement: .inl 0 goes on at pc', .inl 1 breaks to brk, .inl 2 continues at cont, .inr v returns v -/
def JS (M : MI) (brk cont pc pc' : Nat) (nx : List Nat) (f : St) : Prop :=
  ∀ env h r env' h', f env h = some (r, env', h') → ∀ κ, Gdk h κ → ∃ κ', Gdk h' κ' ∧ kle κ κ' ∧ ∀ G X, CCx M G X → kle κ' X.2.2.2.2.1 →
    (r = .inl 0 → ∀ t, t = pc' ∨ t ∈ nx → AWg G X M.2.2.1 t env' [] h' κ') → (r = .inl 1 → AWg G X M.2.2.1 brk env' [] h' κ') → (r = .inl 2 → AWg G X M.2.2.1 cont env' [] h' κ') → (∀ v, r = .inr v → KRt M G X v h' κ') → AWg G X M.2.2.1 pc env [] h κ
theorem kle_rf (κ : KP) : kle κ κ := ⟨Nat.le_refl _, Nat.le_refl _, Nat.le_refl _⟩
theorem kle_tr {a b c : KP} (h1 : kle a b) (h2 : kle b c) : kle a c := ⟨Nat.le_trans h1.1 h2.1, Nat.le_trans h1.2.1 h2.2.1, Nat.le_trans h1.2.2 h2.2.2⟩
