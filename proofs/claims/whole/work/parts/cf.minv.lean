/-! ===== L2: what is always true of the machine ===== -/
theorem rnk_pos (x : Int) : 1 ≤ rnk x := by unfold rnk; repeat (first | split | omega)
theorem rnk_3 (x : Int) : rnk x = 3 ↔ x = 43 := by
  constructor
  · intro h
    apply Classical.byContradiction
    intro z
    unfold rnk at h
    rw [if_neg z] at h
    split at h
    · omega
    · split at h
      · omega
      · split at h
        · omega
        · split at h <;> omega
  · intro h; rw [h]; decide
def srt (L : List Int) : Prop := L.Pairwise fun x y => rnk y < rnk x ∨ (rnk x = 3 ∧ rnk y = 3)
theorem srt_len : ∀ (L : List Int) (r : Nat), srt L → (∀ x ∈ L, rnk x ≤ r) → L.length ≤ r + L.count 43
  | [], r, _, _ => Nat.zero_le _
  | x :: L, r, h, hr => by
    obtain ⟨h1, h2⟩ := List.pairwise_cons.mp h
    rw [List.length_cons, List.count_cons]
    have hx := hr x List.mem_cons_self
    have hp := rnk_pos x
    by_cases z : x = 43
    · have := srt_len L r h2 (fun y hy => hr y (List.mem_cons_of_mem _ hy))
      rw [if_pos (by simpa using z)]
      omega
    · have n3 : rnk x ≠ 3 := fun w => z ((rnk_3 x).mp w)
      have := srt_len L (r - 1) h2 (fun y hy => by
        rcases h1 y hy with w | w
        · omega
        · exact absurd w.1 n3)
      rw [if_neg (by simpa using z)]
      omega
/-- the operators of one frame -/
def SgO (F : FRm) (L : List Int) : Prop := srt L ∧ (tst F.1 = true → F.2.1 = 0 → ∀ x ∈ L, rnk x ≠ 4) ∧ (tst F.1 = true → F.2.2.1 = true → F.2.1 = 0 ∧ ∀ x ∈ L, rnk x ≤ 3) ∧ (¬ tst F.1 = true → ∀ x ∈ L, 5 ≤ rnk x)
def Seg : List FRm → List Int → Prop
  | [], ops => ops = []
  | F :: fr, ops => ∃ L R, ops = L ++ R ∧ F.2.2.2.2 = R.length ∧ SgO F L ∧ Seg fr R
theorem Seg.len : ∀ (fr : List FRm) (ops : List Int), Seg fr ops → ops.length ≤ 6 * fr.length + ops.count 43
  | [], ops, h => by rw [h]; exact Nat.zero_le _
  | F :: fr, ops, ⟨L, R, e, _, s, h⟩ => by
    have a := srt_len L 6 s.1 (fun x _ => rnk_le x)
    have b := Seg.len fr R h
    rw [e, List.length_append, List.count_append, List.length_cons]
    omega
def cal (F : FRm) : Nat := if F.1 = 3 ∨ F.1 = 4 ∨ F.1 = 6 then 1 else 0
theorem cal_le (F : FRm) : cal F ≤ 1 := by unfold cal; split <;> omega
def wgt (fr : List FRm) : Nat := (fr.map cal).sum
def kdF (F : FRm) : Prop := F.1 = 1 ∨ F.1 = 2 ∨ F.1 = 3 ∨ F.1 = 4 ∨ F.1 = 5 ∨ F.1 = 6
def MIv (s : MSt) : Prop := Seg s.2.2.2.2.1 s.2.2.2.1 ∧ s.2.1 + 1 = s.2.2.2.1.count 43 + s.2.2.2.2.1.length ∧ s.2.1 ≤ 7 ∧ s.2.2.1.length + s.2.2.2.1.length + wgt s.2.2.2.2.1 ≤ s.1 ∧ ∀ F ∈ s.2.2.2.2.1, kdF F
/-- joining: a part of the frame's operators is left, all of a lower rank -/
theorem jn_seg {l : Nat} {R : List Int} : ∀ (L : List Int) (c : List (Int × Int)) (o : Nat), srt L → L.count 43 + R.count 43 ≤ o → ∃ L', jn l R.length (L ++ R) c o = (L' ++ R, (jn l R.length (L ++ R) c o).2.1, (jn l R.length (L ++ R) c o).2.2) ∧ srt L' ∧ (∀ x ∈ L', x ∈ L ∧ rnk x < l) ∧ (jn l R.length (L ++ R) c o).2.2 + L.count 43 = o + L'.count 43 ∧ (jn l R.length (L ++ R) c o).2.1.length + L'.length = c.length + L.length ∧ (jn l R.length (L ++ R) c o).2.2 ≤ o
  | [], c, o, _, _ => by
    have e : jn l R.length ([] ++ R) c o = (R, c, o) := by
      have := jn_spec (l := l) (low.base l R) [] c o (fun x hx => absurd hx (by simp))
      rw [List.count_nil, Nat.add_zero] at this
      rw [this]
      show (R, c ++ [], o) = _
      rw [List.append_nil]
    exact ⟨[], by rw [e]; rfl, List.Pairwise.nil, fun x hx => absurd hx (by simp), by rw [e], by rw [e], by rw [e]; exact Nat.le_refl _⟩
  | x :: L, c, o, h, ho => by
    obtain ⟨h1, h2⟩ := List.pairwise_cons.mp h
    rw [List.cons_append]
    unfold jn
    by_cases z : l ≤ rnk x
    · rw [if_pos ⟨by rw [List.length_append]; omega, z⟩]
      rw [List.count_cons] at ho
      obtain ⟨L', a1, a2, a3, a4, a5, a6⟩ := jn_seg (l := l) (R := R) L (c ++ [(x, 0)]) (if x = 43 then o - 1 else o) h2 (by
        by_cases y : x = 43
        · rw [if_pos y]; rw [if_pos (by simpa using y)] at ho; omega
        · rw [if_neg y]; rw [if_neg (by simpa using y)] at ho; omega)
      refine ⟨L', a1, a2, fun y hy => ⟨List.mem_cons_of_mem _ (a3 y hy).1, (a3 y hy).2⟩, ?_, ?_, ?_⟩
      · rw [List.count_cons]
        by_cases y : x = 43
        · rw [if_pos y] at a4 ⊢
          rw [if_pos (by simpa using y)] at ho ⊢
          omega
        · rw [if_neg y] at a4 ⊢
          rw [if_neg (by simpa using y)]
          omega
      · rw [List.length_append, List.length_singleton] at a5
        rw [List.length_cons]; omega
      · refine Nat.le_trans a6 ?_
        split <;> omega
    · rw [if_neg (fun y => z y.2)]
      refine ⟨x :: L, rfl, h, fun y hy => ⟨hy, ?_⟩, rfl, rfl, Nat.le_refl _⟩
      rcases List.mem_cons.mp hy with w | w
      · rw [w]; omega
      · rcases h1 y w with v | v
        · omega
        · omega
theorem SgO.sub {F : FRm} {L L' : List Int} (s : SgO F L) (h1 : srt L') (h2 : ∀ x ∈ L', x ∈ L) : SgO F L' := ⟨h1, fun a b x hx => s.2.1 a b x (h2 x hx), fun a b => ⟨(s.2.2.1 a b).1, fun x hx => (s.2.2.1 a b).2 x (h2 x hx)⟩, fun a x hx => s.2.2.2 a x (h2 x hx)⟩
theorem srt.push {L : List Int} {op : Int} (h : srt L) (h2 : ∀ x ∈ L, rnk x < rnk op ∨ (rnk op = 3 ∧ rnk x = 3)) : srt (op :: L) := List.pairwise_cons.mpr ⟨h2, h⟩
theorem MIv.op {tk : TkF} {w : Nat} {k o : Nat} {c : List (Int × Int)} {ops : List Int} {F : FRm} {fr : List FRm} {t : MSt} (I : MIv (k, o, c, ops, F :: fr, false)) (h : mOp tk w k o c ops F fr = .inl t) : MIv t ∧ k < t.1 := by
  obtain ⟨⟨L, R, e, hb, s, sr⟩, i2, i3, i4, i5⟩ := I
  have e : ops = L ++ R := e
  have i2' : o + 1 = ops.count 43 + (fr.length + 1) := i2
  have i3' : o ≤ 7 := i3
  have i4' : c.length + ops.length + (cal F + wgt fr) ≤ k := by
    have : c.length + ops.length + ((F :: fr).map cal).sum ≤ k := i4
    rw [List.map_cons, List.sum_cons] at this
    exact this
  have kF := i5 F List.mem_cons_self
  have sF : SgO (F.1, F.2.1, false, F.2.2.2) L := ⟨s.1, s.2.1, fun _ z => (by cases z), s.2.2.2⟩
  have i5' : ∀ b : Int × Bool × Int × Nat, ∀ G ∈ (F.1, b) :: fr, kdF G := fun b G hG => by
    rcases List.mem_cons.mp hG with z | z
    · rw [z]; exact kF
    · exact i5 G (List.mem_cons_of_mem _ z)
  have push : ∀ (kind pr : Int) (k' : Nat) (r : MSt), (kind = 2 ∨ kind = 3 ∨ kind = 5 ∨ kind = 6) → k ≤ k' → (kind = 3 ∨ kind = 6 → k + 1 ≤ k') → mpu tk kind pr k' o c ops ((F.1, F.2.1, false, F.2.2.2) :: fr) = .inl r → MIv r ∧ k < r.1 := fun kind pr k' r hk hle h36 hr => by
    unfold mpu at hr
    split at hr
    · cases hr
    · rename_i o7
      have er := Sum.inl.inj hr
      rw [← er]
      refine ⟨⟨⟨[], ops, rfl, rfl, ⟨List.Pairwise.nil, fun _ _ x hx => absurd hx (by simp), fun _ _ => ⟨rfl, fun x hx => absurd hx (by simp)⟩, fun _ x hx => absurd hx (by simp)⟩, L, R, e, hb, sF, sr⟩, ?_, ?_, ?_, ?_⟩, by show k < k' + 1; omega⟩
      · show o + 1 + 1 = ops.count 43 + (fr.length + 1 + 1); omega
      · show o + 1 ≤ 7; omega
      · show c.length + ops.length + (cal (kind, 0, true, pr, ops.length) + (cal F + wgt fr)) ≤ k' + 1
        have : cal (kind, 0, true, pr, ops.length) ≤ 1 := by unfold cal; split <;> omega
        omega
      · intro G hG
        rcases List.mem_cons.mp hG with z | z
        · rw [z]; unfold kdF; show kind = 1 ∨ _; omega
        · exact i5' _ G z
  unfold mOp at h
  split at h
  · cases h
  · split at h
    · rename_i c25
      split at h
      · cases h
      · rename_i o7
        have er := Sum.inl.inj h
        rw [← er]
        rw [Bool.and_eq_true] at c25
        obtain ⟨b1, b2⟩ := s.2.2.1 c25.1.1 c25.1.2
        have r43 : ∀ x : Int, rnk x ≤ 3 → rnk x < rnk 43 ∨ (rnk 43 = 3 ∧ rnk x = 3) := fun x hx => by
          have : rnk 43 = 3 := by decide
          omega
        refine ⟨⟨⟨43 :: L, R, by rw [e]; rfl, hb, ⟨s.1.push (fun x hx => r43 x (b2 x hx)), fun _ _ x hx => ?_, fun _ _ => ⟨b1, fun x hx => ?_⟩, fun z => absurd c25.1.1 z⟩, sr⟩, ?_, ?_, ?_, i5⟩, Nat.lt_succ_self _⟩
        · rcases List.mem_cons.mp hx with z | z
          · rw [z]; decide
          · have := b2 x z; omega
        · rcases List.mem_cons.mp hx with z | z
          · rw [z]; decide
          · exact b2 x z
        · show o + 1 + 1 = (43 :: ops).count 43 + (fr.length + 1)
          rw [List.count_cons, if_pos (by decide)]; omega
        · show o + 1 ≤ 7; omega
        · show c.length + (ops.length + 1) + (cal F + wgt fr) ≤ k + 1; omega
    · split at h
      · exact push 5 0 k t (by omega) (Nat.le_refl _) (by omega) h
      · split at h
        · have er := Sum.inl.inj h
          rw [← er]
          refine ⟨⟨⟨L, R, e, hb, ⟨s.1, fun _ z => absurd z (by simp), fun _ z => (by cases z), s.2.2.2⟩, sr⟩, i2, i3, ?_, i5' _⟩, Nat.lt_succ_self _⟩
          show (c ++ [(30, 0)]).length + ops.length + (cal F + wgt fr) ≤ k + 1
          rw [List.length_append, List.length_singleton]; omega
        · have atom : ∀ x : Int × Int, MIv (k + 1, o, c ++ [x], ops, (F.1, F.2.1, false, F.2.2.2) :: fr, true) ∧ k < k + 1 := fun x => by
            refine ⟨⟨⟨L, R, e, hb, sF, sr⟩, i2, i3, ?_, i5' _⟩, Nat.lt_succ_self _⟩
            show (c ++ [x]).length + ops.length + (cal F + wgt fr) ≤ k + 1
            rw [List.length_append, List.length_singleton]; omega
          split at h
          · exact push 2 0 k t (by omega) (Nat.le_refl _) (by omega) h
          · split at h
            · split at h
              · exact push _ _ (k + 1) t (by split <;> omega) (by omega) (by omega) h
              · cases h
            · split at h
              · have er := Sum.inl.inj h
                rw [← er]; exact atom _
              · split at h
                · split at h
                  · have er := Sum.inl.inj h
                    rw [← er]; exact atom _
                  · cases h
                · cases h
def lsK : List FRm → Prop
  | [] => True
  | [F] => F.1 = 1
  | _ :: G :: r => lsK (G :: r)
theorem lsK.ch {F : FRm} {fr : List FRm} (h : lsK (F :: fr)) {F' : FRm} (e : F'.1 = F.1) : lsK (F' :: fr) := by
  cases fr with
  | nil => exact e.trans h
  | cons G r => exact h
def BgI (s : MSt) : Prop := (∀ F ∈ s.2.2.2.2.1.tail, F.2.2.1 = false) ∧ (s.2.2.2.2.2 = true → ∀ F ∈ s.2.2.2.2.1, F.2.2.1 = false) ∧ lsK s.2.2.2.2.1
theorem BgI.op {tk : TkF} {w : Nat} {k o : Nat} {c : List (Int × Int)} {ops : List Int} {F : FRm} {fr : List FRm} {t : MSt} (I : BgI (k, o, c, ops, F :: fr, false)) (h : mOp tk w k o c ops F fr = .inl t) : BgI t := by
  obtain ⟨i1, -, i3⟩ := I
  have all : ∀ G ∈ (F.1, F.2.1, false, F.2.2.2) :: fr, G.2.2.1 = false := fun G hG => by
    rcases List.mem_cons.mp hG with z | z
    · rw [z]
    · exact i1 G z
  have one : ∀ (b : Int × Bool × Int × Nat), lsK ((F.1, b) :: fr) := fun b => lsK.ch (F := F) i3 rfl
  have push : ∀ (kind pr : Int) (k' : Nat) (r : MSt), mpu tk kind pr k' o c ops ((F.1, F.2.1, false, F.2.2.2) :: fr) = .inl r → BgI r := fun kind pr k' r hr => by
    unfold mpu at hr
    split at hr
    · cases hr
    · have er := Sum.inl.inj hr
      rw [← er]
      exact ⟨all, fun z => (by cases z), one _⟩
  unfold mOp at h
  split at h
  · cases h
  · split at h
    · split at h
      · cases h
      · have er := Sum.inl.inj h
        rw [← er]; exact ⟨i1, fun z => (by cases z), i3⟩
    · split at h
      · exact push _ _ _ _ h
      · split at h
        · have er := Sum.inl.inj h
          rw [← er]
          refine ⟨i1, fun _ G hG => ?_, one _⟩
          rcases List.mem_cons.mp hG with z | z
          · rw [z]
          · exact i1 G z
        · split at h
          · exact push _ _ _ _ h
          · split at h
            · split at h
              · exact push _ _ _ _ h
              · cases h
            · split at h
              · have er := Sum.inl.inj h
                rw [← er]; exact ⟨i1, fun _ => all, one _⟩
              · split at h
                · split at h
                  · have er := Sum.inl.inj h
                    rw [← er]; exact ⟨i1, fun _ => all, one _⟩
                  · cases h
                · cases h
theorem MIv.go {tk : TkF} {k o : Nat} {c : List (Int × Int)} {ops : List Int} {F : FRm} {fr : List FRm} {t : MSt} (I : MIv (k, o, c, ops, F :: fr, true)) (B : BgI (k, o, c, ops, F :: fr, true)) (h : mGo tk k o c ops F fr = .inl t) : MIv t ∧ BgI t ∧ k < t.1 := by
  obtain ⟨⟨L, R, e, hb, s, sr⟩, i2, i3, i4, i5⟩ := I
  obtain ⟨j1, j2, j3⟩ := B
  have e : ops = L ++ R := e
  have i2' : o + 1 = ops.count 43 + (fr.length + 1) := i2
  have i3' : o ≤ 7 := i3
  have i4' : c.length + ops.length + (cal F + wgt fr) ≤ k := by
    have : c.length + ops.length + ((F :: fr).map cal).sum ≤ k := i4
    rw [List.map_cons, List.sum_cons] at this
    exact this
  have kF := i5 F List.mem_cons_self
  have bF0 : F.2.2.1 = false := j2 rfl F List.mem_cons_self
  have bT : ∀ G ∈ fr, G.2.2.1 = false := fun G hG => j2 rfl G (List.mem_cons_of_mem _ hG)
  rw [e, List.count_append] at i2'
  rw [e, List.length_append] at i4'
  subst e
  have jl := fun l => jn_seg (l := l) (R := R) L c o s.1 (by omega)
  -- an operator is held back
  have put : ∀ (l : Nat) (op : Int) (F' : FRm), op ≠ 43 → (∀ x ∈ L, rnk x < l → rnk x < rnk op) → kdF F' → cal F' = cal F → F'.2.2.2.2 = R.length → (∀ L' : List Int, srt (op :: L') → (∀ x ∈ L', x ∈ L ∧ rnk x < l) → SgO F' (op :: L')) → lsK (F' :: fr) → MIv (k + 1, (jn l R.length (L ++ R) c o).2.2, (jn l R.length (L ++ R) c o).2.1, op :: (jn l R.length (L ++ R) c o).1, F' :: fr, false) ∧ BgI (k + 1, (jn l R.length (L ++ R) c o).2.2, (jn l R.length (L ++ R) c o).2.1, op :: (jn l R.length (L ++ R) c o).1, F' :: fr, false) ∧ k < k + 1 := fun l op F' n43 hr kd ca ba sg on => by
    obtain ⟨L', a1, a2, a3, a4, a5, a6⟩ := jl l
    rw [a1]
    have so := sg L' (a2.push (fun x hx => Or.inl (hr x (a3 x hx).1 (a3 x hx).2))) a3
    refine ⟨⟨⟨op :: L', R, rfl, ba, so, sr⟩, ?_, ?_, ?_, fun G hG => ?_⟩, ⟨bT, fun z => (by cases z), on⟩, Nat.lt_succ_self _⟩
    · show (jn l R.length (L ++ R) c o).2.2 + 1 = (op :: (L' ++ R)).count 43 + (fr.length + 1)
      rw [List.count_cons, if_neg (by simpa using n43), List.count_append]; omega
    · show (jn l R.length (L ++ R) c o).2.2 ≤ 7; omega
    · show (jn l R.length (L ++ R) c o).2.1.length + (op :: (L' ++ R)).length + (cal F' + wgt fr) ≤ k + 1
      rw [List.length_cons, List.length_append, ca]; omega
    · rcases List.mem_cons.mp hG with z | z
      · rw [z]; exact kd
      · exact i5 G (List.mem_cons_of_mem _ z)
  -- all is joined
  have nil1 : ∃ c1 o1, jn 1 R.length (L ++ R) c o = (R, c1, o1) ∧ o1 + L.count 43 = o ∧ c1.length = c.length + L.length := by
    obtain ⟨L', a1, a2, a3, a4, a5, a6⟩ := jl 1
    have e0 : L' = [] := by
      cases L' with
      | nil => rfl
      | cons y L'' =>
        have := (a3 y List.mem_cons_self).2
        have := rnk_pos y
        omega
    rw [e0] at a1 a4 a5
    exact ⟨_, _, a1, by simpa using a4, by simpa using a5⟩
  have oth : ∀ b : Int × Bool × Int × Nat, lsK ((F.1, b) :: fr) := fun b => lsK.ch (F := F) j3 rfl
  have hb' : F.2.2.2.2 = R.length := hb
  unfold mGo at h
  rw [hb'] at h
  split at h
  · cases h
  · split at h
    · rename_i op hs
      have er := Sum.inl.inj h
      rw [← er]
      have hop : op = 31 ∨ op = 32 := by
        split at hs
        · exact (sep_kd.2.2.1 hs).2
        · cases hs
      have r5 : rnk op = 5 := by rcases hop with z | z <;> rw [z] <;> decide
      refine put 5 op F (by omega) (fun x _ hx => by omega) kF rfl hb' (fun L' hs' hm => ⟨hs', fun a b x hx => ?_, fun a b => ?_, fun a x hx => ?_⟩) (oth _)
      · rcases List.mem_cons.mp hx with z | z
        · rw [z]; omega
        · exact s.2.1 a b x (hm x z).1
      · rw [bF0] at b; cases b
      · rcases List.mem_cons.mp hx with z | z
        · rw [z]; omega
        · exact s.2.2.2 a x (hm x z).1
    · split at h
      · rename_i op hs
        have er := Sum.inl.inj h
        rw [← er]
        have hop : op = 33 ∨ op = 34 ∨ op = 35 := by
          split at hs
          · exact (sep_kd.2.2.2.1 hs).2
          · cases hs
        have r5 : rnk op = 6 := by rcases hop with z | z | z <;> rw [z] <;> decide
        refine put 6 op F (by omega) (fun x _ hx => by omega) kF rfl hb' (fun L' hs' hm => ⟨hs', fun a b x hx => ?_, fun a b => ?_, fun a x hx => ?_⟩) (oth _)
        · rcases List.mem_cons.mp hx with z | z
          · rw [z]; omega
          · exact s.2.1 a b x (hm x z).1
        · rw [bF0] at b; cases b
        · rcases List.mem_cons.mp hx with z | z
          · rw [z]; omega
          · exact s.2.2.2 a x (hm x z).1
      · split at h
        · rename_i op hs
          have er := Sum.inl.inj h
          rw [← er]
          have hop : (op = 38 ∨ op = 39 ∨ op = 40) ∧ tst F.1 = true ∧ F.2.1 = 0 := by
            split at hs
            · rename_i y; exact ⟨(sep_kd.2.2.2.2 hs).2, y⟩
            · cases hs
          have r5 : rnk op = 4 := by rcases hop.1 with z | z | z <;> rw [z] <;> decide
          refine put 5 op (F.1, 1, F.2.2) (by omega) (fun x hx hx5 => by have := s.2.1 hop.2.1 hop.2.2 x hx; omega) kF rfl hb' (fun L' hs' hm => ⟨hs', fun a b x hx => absurd b (by simp), fun a b => ?_, fun a x hx => absurd hop.2.1 a⟩) (oth _)
          have b' : F.2.2.1 = true := b
          rw [bF0] at b'; cases b'
        · split at h
          · cases h
          · split at h
            · rename_i y
              have er := Sum.inl.inj h
              rw [← er]
              have r2 : rnk 41 = 2 := by decide
              refine put 2 41 (F.1, 0, true, F.2.2.2) (by omega) (fun x _ hx => by omega) kF rfl hb' (fun L' hs' hm => ⟨hs', fun a b x hx => ?_, fun a b => ⟨rfl, fun x hx => ?_⟩, fun a x hx => absurd y.1 a⟩) (oth _)
              · rcases List.mem_cons.mp hx with z | z
                · rw [z]; omega
                · have := (hm x z).2; omega
              · rcases List.mem_cons.mp hx with z | z
                · rw [z]; omega
                · have := (hm x z).2; omega
            · split at h
              · rename_i y
                have er := Sum.inl.inj h
                rw [← er]
                have r1 : rnk 42 = 1 := by decide
                refine put 1 42 (F.1, 0, true, F.2.2.2) (by omega) (fun x _ hx => by omega) kF rfl hb' (fun L' hs' hm => ⟨hs', fun a b x hx => ?_, fun a b => ⟨rfl, fun x hx => ?_⟩, fun a x hx => absurd y.1 a⟩) (oth _)
                · rcases List.mem_cons.mp hx with z | z
                  · rw [z]; omega
                  · have := (hm x z).2; omega
                · rcases List.mem_cons.mp hx with z | z
                  · rw [z]; omega
                  · have := (hm x z).2; omega
              · obtain ⟨c1, o1, q1, q2, q3⟩ := nil1
                rw [q1] at h
                split at h
                · cases h
                · rename_i f2
                  split at h
                  · rename_i f36
                    split at h
                    · have er := Sum.inl.inj h
                      rw [← er]
                      refine ⟨⟨⟨[], R, rfl, hb', ⟨List.Pairwise.nil, fun _ _ x hx => absurd hx (by simp), fun a b => ?_, fun _ x hx => absurd hx (by simp)⟩, sr⟩, ?_, ?_, ?_, fun G hG => ?_⟩, ⟨bT, fun z => (by cases z), ?_⟩, Nat.lt_succ_self _⟩
                      · have b' : F.2.2.1 = true := b
                        rw [bF0] at b'; cases b'
                      · show o1 + 1 = R.count 43 + (fr.length + 1); omega
                      · show o1 ≤ 7; omega
                      · show c1.length + R.length + (cal ((if F.1 = 3 then 4 else 3), 0, F.2.2) + wgt fr) ≤ k + 1
                        have cF : cal F = 1 := by unfold cal; rw [if_pos (by omega)]
                        have cN := cal_le ((if F.1 = 3 then 4 else 3), 0, F.2.2)
                        omega
                      · rcases List.mem_cons.mp hG with z | z
                        · rw [z]; unfold kdF; show (if F.1 = 3 then (4 : Int) else 3) = 1 ∨ _
                          split <;> simp
                        · exact i5 G (List.mem_cons_of_mem _ z)
                      · cases fr with
                        | nil =>
                          have : F.1 = 1 := j3
                          omega
                        | cons G r => exact j3
                    · cases h
                  · rename_i n36
                    generalize (if F.1 = 5 then (93 : Int) else 41) = sg at h
                    by_cases cg : isG tk k sg = true
                    · rw [if_pos cg] at h
                      have er := Sum.inl.inj h
                      rw [← er]
                      cases fr with
                      | nil =>
                        have : F.1 = 1 := j3
                        omega
                      | cons G r =>
                        obtain ⟨LG, RG, eG, hG, sG, srG⟩ := sr
                        have kG := i5 G (List.mem_cons_of_mem _ List.mem_cons_self)
                        have bG := bT G List.mem_cons_self
                        have lt := List.length_cons (a := G) (as := r)
                        refine ⟨⟨⟨LG, RG, eG, ?_, ?_, srG⟩, ?_, ?_, ?_, fun G' hG' => ?_⟩, ⟨fun G' hG' => bT G' (List.mem_cons_of_mem _ hG'), fun _ G' hG' => ?_, ?_⟩, Nat.lt_succ_self _⟩
                        · split <;> exact hG
                        · split
                          · exact ⟨sG.1, fun _ z => absurd z (by simp), fun _ z => (by have z' : G.2.2.1 = true := z; rw [bG] at z'; cases z'), sG.2.2.2⟩
                          · exact sG
                        · show o1 - 1 + 1 = R.count 43 + (r.length + 1); omega
                        · show o1 - 1 ≤ 7; omega
                        · show (c1 ++ (if F.1 = 4 then [(F.2.2.2.1, 0)] else [])).length + R.length + (cal (if F.1 = 5 then (G.1, 2, G.2.2) else G) + wgt r) ≤ k + 1
                          have e1 : cal (if F.1 = 5 then (G.1, 2, G.2.2) else G) = cal G := by split <;> rfl
                          have e2 : wgt (G :: r) = cal G + wgt r := by unfold wgt; rw [List.map_cons, List.sum_cons]
                          have e3 : (if F.1 = 4 then [(F.2.2.2.1, (0 : Int))] else []).length ≤ cal F := by
                            unfold cal
                            split
                            · rw [if_pos (by omega)]; exact Nat.le_refl _
                            · exact Nat.zero_le _
                          rw [List.length_append, e1]
                          omega
                        · rcases List.mem_cons.mp hG' with z | z
                          · rw [z]; split
                            · exact kG
                            · exact kG
                          · exact i5 G' (List.mem_cons_of_mem _ (List.mem_cons_of_mem _ z))
                        · rcases List.mem_cons.mp hG' with z | z
                          · rw [z]; split
                            · exact bG
                            · exact bG
                          · exact bT G' (List.mem_cons_of_mem _ z)
                        · refine lsK.ch (F := G) j3 ?_
                          split <;> rfl
                    · rw [if_neg cg] at h; cases h
