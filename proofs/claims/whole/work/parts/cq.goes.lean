/-! ===== L2: the reference's parser behind an operand: joining and holding back ===== -/
/-- the operators that can be held back -/
def OpV (ops : List Int) : Prop := ∀ x ∈ ops, 31 ≤ x ∧ x ≤ 43
theorem OpV.left {ops : List Int} (v : OpV ops) (l base : Nat) : ∀ (c : List (Int × Int)) (o : Nat), OpV (jn l base ops c o).1 := by
  induction ops with
  | nil => exact fun c o => v
  | cons x ops ih =>
    intro c o
    unfold jn
    split
    · exact ih (fun y hy => v y (List.mem_cons_of_mem _ hy)) _ _
    · exact v
theorem PaM.joins {h : AH} (g : Gr h) {T : List Int} {b : Bk} {k o : Nat} {c : List (Int × Int)} {ops : List Int} {F : FRm} {fr : List FRm} {fl : Bool} (P : PaM h T b (k, o, c, ops, F :: fr, fl)) (I : MIv (k, o, c, ops, F :: fr, fl)) (V : OpV ops) (hk : k ≤ 1600) (l : Nat) (hl : l ≤ 6) : ∃ h1, mX12_joins [.ref 95, .int (iI (l : Int))] h = some (none, h1) ∧ FrM [100, 101] [19, 28, 30] h h1 ∧ PaM h1 T b (k, (jn l F.2.2.2.2 ops c o).2.2, (jn l F.2.2.2.2 ops c o).2.1, (jn l F.2.2.2.2 ops c o).1, F :: fr, fl) := by
  obtain ⟨⟨L, R, e, hb, s, sr⟩, i2, i3, i4, i5⟩ := I
  have i2' : o + 1 = ops.count 43 + (fr.length + 1) := i2
  have i3' : o ≤ 7 := i3
  have sl : ops.length ≤ 6 * (fr.length + 1) + ops.count 43 := Seg.len (F :: fr) ops ⟨L, R, e, hb, s, sr⟩
  have i4' : c.length + ops.length + wgt (F :: fr) ≤ k := i4
  have e' : ops = L ++ R := e
  have hb' : F.2.2.2.2 = R.length := hb
  have lr : R.length ≤ ops.length := by rw [e', List.length_append]; omega
  obtain ⟨X, A, h8, C, O, h27, RR, h28⟩ := P
  have b5 : hI h 106 fr.length = iI ((F.2.2.2.2 : Nat) : Int) := RR.1.2.2.2.2
  obtain ⟨h1, j1, j2, j3, j4, j5⟩ := m_joins g (c := c) (ops := ops) (o := o) C O h28 fr.length h27 (by omega) F.2.2.2.2 b5 (by omega) l hl (by omega) (by omega) (by omega) i3' V
  refine ⟨h1, j1, j2, X.fr j2 (by decide) (by decide), A.fr j2 (by decide) (by decide), ?_, j3, j4, ?_, FrsM.fr (fr := F :: fr) RR j2 (by decide), j5⟩
  · rw [j2.2.2.2.2.2.1 8 (by decide)]; exact h8
  · rw [j2.2.2.2.2.2.1 27 (by decide)]; exact h27
theorem PaM.hb {h : AH} (g : Gr h) {T : List Int} {b : Bk} {k o : Nat} {c : List (Int × Int)} {ops : List Int} {fr : List FRm} {fl : Bool} (P : PaM h T b (k, o, c, ops, fr, fl)) (hl : ops.length < 500) (op : Int) : ∃ h1, mX12_holdsBack [.ref 95, .int (iI op)] h = some (none, h1) ∧ FrM [107] [30] h h1 ∧ PaM h1 T b (k, o, c, op :: ops, fr, fl) := by
  obtain ⟨X, A, h8, C, O, h27, R, h28⟩ := P
  obtain ⟨h1, q1, q2, q3⟩ := m_holdsBack g O hl op
  refine ⟨h1, q1, q2, X.fr q2 (by decide) (by decide), A.fr q2 (by decide) (by decide), ?_, C.fr q2 (by decide) (by decide), q3, ?_, R.fr q2 (by decide), ?_⟩
  · rw [q2.2.2.2.2.2.1 8 (by decide)]; exact h8
  · rw [q2.2.2.2.2.2.1 27 (by decide)]; exact h27
  · rw [q2.2.2.2.2.2.1 28 (by decide)]; exact h28
/-- the top frame's phase (and, behind and / or, that a fact begins) -/
theorem PaM.phase {h : AH} {T : List Int} {b : Bk} {k o : Nat} {c : List (Int × Int)} {ops : List Int} {F : FRm} {fr : List FRm} {fl : Bool} (P : PaM h T b (k, o, c, ops, F :: fr, fl)) (ph : Int) : FrM [103] [] h (sI h 103 fr.length (iI ph)) ∧ PaM (sI h 103 fr.length (iI ph)) T b (k, o, c, ops, (F.1, ph, F.2.2) :: fr, fl) := by
  have f : FrM [103] [] h (sI h 103 fr.length (iI ph)) := (FrM.rf _ _ h).wI 103 _ (by simp) (by decide) _
  obtain ⟨X, A, h8, C, O, h27, ⟨⟨a1, a2, a3, a4, a5⟩, R⟩, h28⟩ := P
  have o1 : ∀ q i, q ≠ 103 → hI (sI h 103 fr.length (iI ph)) q i = hI h q i := fun q i hq => by rw [hI_sI, u2_app, if_neg (fun z => hq z.1)]
  refine ⟨f, X.fr f (by decide) (by decide), A.fr f (by decide) (by decide), by rw [o1 _ _ (by decide)]; exact h8, C.fr f (by decide) (by decide), O.fr f (by decide) (by decide), by rw [o1 _ _ (by decide)]; exact h27, ⟨⟨by rw [o1 _ _ (by decide)]; exact a1, by rw [hI_sI, u2_app, if_pos ⟨rfl, rfl⟩], by rw [o1 _ _ (by decide)]; exact a3, fun z => by rw [o1 _ _ (by decide)]; exact a4 z, by rw [o1 _ _ (by decide)]; exact a5⟩, R.put (fun i hi => ⟨o1 _ _ (by decide), by rw [hI_sI, u2_app, if_neg (by omega)], o1 _ _ (by decide), o1 _ _ (by decide), o1 _ _ (by decide)⟩)⟩, by rw [o1 _ _ (by decide)]; exact h28⟩
theorem PaM.begins {h : AH} {T : List Int} {b : Bk} {k o : Nat} {c : List (Int × Int)} {ops : List Int} {F : FRm} {fr : List FRm} {fl : Bool} (P : PaM h T b (k, o, c, ops, F :: fr, fl)) : FrM [104] [] h (sI h 104 fr.length (iI 1)) ∧ PaM (sI h 104 fr.length (iI 1)) T b (k, o, c, ops, (F.1, F.2.1, true, F.2.2.2) :: fr, fl) := by
  have f : FrM [104] [] h (sI h 104 fr.length (iI 1)) := (FrM.rf _ _ h).wI 104 _ (by simp) (by decide) _
  obtain ⟨X, A, h8, C, O, h27, ⟨⟨a1, a2, a3, a4, a5⟩, R⟩, h28⟩ := P
  have o1 : ∀ q i, q ≠ 104 → hI (sI h 104 fr.length (iI 1)) q i = hI h q i := fun q i hq => by rw [hI_sI, u2_app, if_neg (fun z => hq z.1)]
  refine ⟨f, X.fr f (by decide) (by decide), A.fr f (by decide) (by decide), by rw [o1 _ _ (by decide)]; exact h8, C.fr f (by decide) (by decide), O.fr f (by decide) (by decide), by rw [o1 _ _ (by decide)]; exact h27, ⟨⟨by rw [o1 _ _ (by decide)]; exact a1, by rw [o1 _ _ (by decide)]; exact a2, by rw [hI_sI, u2_app, if_pos ⟨rfl, rfl⟩]; rfl, fun z => by rw [o1 _ _ (by decide)]; exact a4 z, by rw [o1 _ _ (by decide)]; exact a5⟩, R.put (fun i hi => ⟨o1 _ _ (by decide), o1 _ _ (by decide), by rw [hI_sI, u2_app, if_neg (by omega)], o1 _ _ (by decide), o1 _ _ (by decide)⟩)⟩, by rw [o1 _ _ (by decide)]; exact h28⟩
