/-! ===== L2: goesOn() of the reference: arithmetic ===== -/
/-- how a step behind an operand ends -/
def GoR (h h' : AH) (T : List Int) (b : Bk) (v : Int) (r : MRs) : Prop := FrM paS paF h h' ∧ match r with
  | .inl t => PaM h' T b t ∧ v = 1 ∧ hI h' 95 31 = iI (if t.2.2.2.2.2 = true then 1 else 0)
  | .inr (.inr x) => FauM h' b x ∧ v = 0
  | .inr (.inl d) => v = 0 ∧ TxM h' T ∧ TkA h' T (tkP T d.1) ∧ CoM h' b d.2 ∧ hI h' 95 8 = iI 0
/-- what is held back behind joining; then the next token -/
theorem PaM.hold {h : AH} (g : Gr h) {T : List Int} {b : Bk} {k o : Nat} {c : List (Int × Int)} {ops : List Int} {F : FRm} {fr : List FRm} (P : PaM h T b (k, o, c, ops, F :: fr, true)) (I : MIv (k, o, c, ops, F :: fr, true)) (V : OpV ops) (hk : k ≤ 1600) (l : Nat) (hl : l ≤ 6) (op : Int) : ∃ h1 h2, mX12_joins [.ref 95, .int (iI (l : Int))] h = some (none, h1) ∧ Gr h1 ∧ mX12_holdsBack [.ref 95, .int (iI op)] h1 = some (none, h2) ∧ Gr h2 ∧ FrM paS paF h h2 ∧ FrM [100, 101] [19, 28, 30] h h1 ∧ FrM [107] [30] h1 h2 ∧ PaM h2 T b (k, (jn l F.2.2.2.2 ops c o).2.2, (jn l F.2.2.2.2 ops c o).2.1, op :: (jn l F.2.2.2.2 ops c o).1, F :: fr, false) := by
  obtain ⟨h1, j1, j2, P1⟩ := P.joins g I V hk l hl
  have g1 := j2.gr g
  have ol : (jn l F.2.2.2.2 ops c o).1.length ≤ ops.length := by
    obtain ⟨n, n1, n2, -, -⟩ := jn_it l F.2.2.2.2 ops c o (by have : o + 1 = ops.count 43 + (fr.length + 1) := I.2.1; omega)
    rw [n2]
    show (ops.drop n).length ≤ _
    rw [List.length_drop]; omega
  have sl : ops.length ≤ 6 * (fr.length + 1) + ops.count 43 := Seg.len (F :: fr) ops I.1
  have i2 : o + 1 = ops.count 43 + (fr.length + 1) := I.2.1
  have i3 : o ≤ 7 := I.2.2.1
  obtain ⟨h2, q1, q2, P2⟩ := P1.hb g1 (by omega) op
  exact ⟨h1, h2, j1, g1, q1, q2.gr g1, (j2.mono (by decide) (by decide)).tr (q2.mono (by decide) (by decide)), j2, q2, P2⟩
