/-! ===== L2: store() of the reference leaves the seed alone (by mkei.py) ===== -/
def KL (h h' : AH) : Prop := hL h' 95 40 = hL h 95 40
def EK {α : Type} (f : Ex α) : Prop := ∀ env h r, f env h = some r → KL h r.2
def TK (f : St) : Prop := ∀ env h r, f env h = some r → KL h r.2.2
def QK (f : MS) : Prop := ∀ vs h r, f vs h = some r → KL h r.2
theorem KL.tr {a b c : AH} (h2 : KL b c) (h1 : KL a b) : KL a c := Eq.trans h2 h1
theorem kl_binx {α β γ : Type} {op : α → β → Option γ} {f : Ex α} {g : Ex β} (hf : EK f) (hg : EK g) : EK (binx op f g) := fun env h r e => by
  obtain ⟨r1, e1, e⟩ := Option.bind_eq_some_iff.mp e
  obtain ⟨r2, e2, e⟩ := Option.bind_eq_some_iff.mp e
  obtain ⟨z, e3, e⟩ := Option.bind_eq_some_iff.mp e
  cases e
  exact (hg _ _ _ e2).tr (hf _ _ _ e1)
theorem kl_unax {α γ : Type} {op : α → Option γ} {f : Ex α} (hf : EK f) : EK (unax op f) := fun env h r e => by
  obtain ⟨r1, e1, e⟩ := Option.bind_eq_some_iff.mp e
  obtain ⟨z, e3, e⟩ := Option.bind_eq_some_iff.mp e
  cases e
  exact hf _ _ _ e1
theorem kl_ciI {v : Int32} : EK (ciI v) := fun env h r e => by cases e; rfl
theorem kl_clL {v : Int64} : EK (clL v) := fun env h r e => by cases e; rfl
theorem kl_lvI {k : Nat} : EK (lvI k) := fun env h r e => by
  unfold lvI at e
  split at e
  · cases e; rfl
  · cases e
theorem kl_lvL {k : Nat} : EK (lvL k) := fun env h r e => by
  unfold lvL at e
  split at e
  · cases e; rfl
  · cases e
theorem kl_lvR {k : Nat} : EK (lvR k) := fun env h r e => by
  unfold lvR at e
  split at e
  · cases e; rfl
  · cases e
theorem kl_agN : EK (α := List Value) agN := fun env h r e => by cases e; rfl
theorem kl_agC {α : Type} {inj : α → Value} {f : Ex α} {g : Args} (hf : EK f) (hg : EK (α := List Value) g) : EK (α := List Value) (agC inj f g) := fun env h r e => by
  obtain ⟨r1, e1, e⟩ := Option.bind_eq_some_iff.mp e
  obtain ⟨r2, e2, e⟩ := Option.bind_eq_some_iff.mp e
  cases e
  exact (hg _ _ _ e2).tr (hf _ _ _ e1)
theorem kl_aldI {kd : Nat} {f : Ex (Option Nat)} {g : Ex Int32} (hf : EK f) (hg : EK g) : EK (aldI kd f g) := fun env h r e => by
  obtain ⟨r1, e1, e⟩ := Option.bind_eq_some_iff.mp e
  obtain ⟨r2, e2, e⟩ := Option.bind_eq_some_iff.mp e
  split at e
  · split at e
    · cases e
      exact (hg _ _ _ e2).tr (hf _ _ _ e1)
    · cases e
  · cases e
theorem kl_andX {a b : Ex Bool} (ha : EK a) (hb : EK b) : EK (andX a b) := fun env h r e => by
  obtain ⟨r1, e1, e⟩ := Option.bind_eq_some_iff.mp e
  split at e
  · exact (hb _ _ _ e).tr (ha _ _ _ e1)
  · cases e
    exact (show KL h r1.2 from ha _ _ r1 e1)
theorem kl_orX {a b : Ex Bool} (ha : EK a) (hb : EK b) : EK (orX a b) := fun env h r e => by
  obtain ⟨r1, e1, e⟩ := Option.bind_eq_some_iff.mp e
  split at e
  · cases e
    exact (show KL h r1.2 from ha _ _ r1 e1)
  · exact (hb _ _ _ e).tr (ha _ _ _ e1)
theorem kl_notX {a : Ex Bool} (ha : EK a) : EK (notX a) := fun env h r e => by
  obtain ⟨r1, e1, e⟩ := Option.bind_eq_some_iff.mp e
  cases e
  exact (show KL h r1.2 from ha _ _ r1 e1)
theorem kl_iteX {α : Type} {c : Ex Bool} {f g : Ex α} (hc : EK c) (hf : EK f) (hg : EK g) : EK (iteX c f g) := fun env h r e => by
  obtain ⟨r1, e1, e⟩ := Option.bind_eq_some_iff.mp e
  split at e
  · exact (hf _ _ _ e).tr (hc _ _ _ e1)
  · exact (hg _ _ _ e).tr (hc _ _ _ e1)
theorem kl_getI {c k : Nat} {f : Ex (Option Nat)} (hf : EK f) : EK (getI c k f) := fun env h r e => by
  obtain ⟨r1, e1, e⟩ := Option.bind_eq_some_iff.mp e
  split at e
  · split at e
    · cases e
      exact (show KL h r1.2 from hf _ _ r1 e1)
    · cases e
  · cases e
theorem kl_getL {c k : Nat} {f : Ex (Option Nat)} (hf : EK f) : EK (getL c k f) := fun env h r e => by
  obtain ⟨r1, e1, e⟩ := Option.bind_eq_some_iff.mp e
  split at e
  · split at e
    · cases e
      exact (show KL h r1.2 from hf _ _ r1 e1)
    · cases e
  · cases e
theorem kl_getR {c k : Nat} {f : Ex (Option Nat)} (hf : EK f) : EK (getR c k f) := fun env h r e => by
  obtain ⟨r1, e1, e⟩ := Option.bind_eq_some_iff.mp e
  split at e
  · split at e
    · cases e
      exact (show KL h r1.2 from hf _ _ r1 e1)
    · cases e
  · cases e
theorem kl_putI {c k : Nat} {f : Ex (Option Nat)} {g : Ex Int32} (hf : EK f) (hg : EK g) : TK (putI c k f g) := fun env h r e => by
  obtain ⟨r1, e1, e⟩ := Option.bind_eq_some_iff.mp e
  obtain ⟨r2, e2, e⟩ := Option.bind_eq_some_iff.mp e
  split at e
  · split at e
    · cases e
      refine KL.tr (b := r2.2) ?_ ((hg _ _ _ e2).tr (hf _ _ _ e1))
      rfl
    · cases e
  · cases e
theorem kl_putZ {c k : Nat} {f : Ex (Option Nat)} {g : Ex Int32} (hf : EK f) (hg : EK g) : TK (putZ c k f g) := fun env h r e => by
  obtain ⟨r1, e1, e⟩ := Option.bind_eq_some_iff.mp e
  obtain ⟨r2, e2, e⟩ := Option.bind_eq_some_iff.mp e
  split at e
  · split at e
    · cases e
      refine KL.tr (b := r2.2) ?_ ((hg _ _ _ e2).tr (hf _ _ _ e1))
      rfl
    · cases e
  · cases e
theorem kl_putL {c k : Nat} (hk : k ≠ 40) {f : Ex (Option Nat)} {g : Ex Int64} (hf : EK f) (hg : EK g) : TK (putL c k f g) := fun env h r e => by
  obtain ⟨r1, e1, e⟩ := Option.bind_eq_some_iff.mp e
  obtain ⟨r2, e2, e⟩ := Option.bind_eq_some_iff.mp e
  split at e
  · split at e
    · cases e
      refine KL.tr (b := r2.2) ?_ ((hg _ _ _ e2).tr (hf _ _ _ e1))
      show hL (sL r2.2 _ k r2.1) 95 40 = hL r2.2 95 40
      rw [hL_sL, u2_app, if_neg (fun z => hk z.2.symm)]
    · cases e
  · cases e
theorem kl_astI {f : Ex (Option Nat)} {g u : Ex Int32} (hf : EK f) (hg : EK g) (hu : EK u) : TK (astI f g u) := fun env h r e => by
  obtain ⟨r1, e1, e⟩ := Option.bind_eq_some_iff.mp e
  obtain ⟨r2, e2, e⟩ := Option.bind_eq_some_iff.mp e
  obtain ⟨r3, e3, e⟩ := Option.bind_eq_some_iff.mp e
  split at e
  · split at e
    · cases e
      exact KL.tr (b := r3.2) rfl ((hu _ _ _ e3).tr ((hg _ _ _ e2).tr (hf _ _ _ e1)))
    · cases e
  · cases e
theorem kl_astZ {f : Ex (Option Nat)} {g u : Ex Int32} (hf : EK f) (hg : EK g) (hu : EK u) : TK (astZ f g u) := fun env h r e => by
  obtain ⟨r1, e1, e⟩ := Option.bind_eq_some_iff.mp e
  obtain ⟨r2, e2, e⟩ := Option.bind_eq_some_iff.mp e
  obtain ⟨r3, e3, e⟩ := Option.bind_eq_some_iff.mp e
  split at e
  · split at e
    · cases e
      exact KL.tr (b := r3.2) rfl ((hu _ _ _ e3).tr ((hg _ _ _ e2).tr (hf _ _ _ e1)))
    · cases e
  · cases e
theorem kl_incA {f : Ex (Option Nat)} {g : Ex Int32} {n : Int32} (hf : EK f) (hg : EK g) : TK (incA f g n) := fun env h r e => by
  obtain ⟨r1, e1, e⟩ := Option.bind_eq_some_iff.mp e
  obtain ⟨r2, e2, e⟩ := Option.bind_eq_some_iff.mp e
  split at e
  · split at e
    · cases e
      exact KL.tr (b := r2.2) rfl ((hg _ _ _ e2).tr (hf _ _ _ e1))
    · cases e
  · cases e
theorem kl_updI {c k : Nat} {op : Int32 → Int32 → Int32} {f : Ex (Option Nat)} {g : Ex Int32} (hf : EK f) (hg : EK g) : TK (updI c k op f g) := fun env h r e => by
  obtain ⟨r1, e1, e⟩ := Option.bind_eq_some_iff.mp e
  split at e
  · split at e
    · obtain ⟨r2, e2, e⟩ := Option.bind_eq_some_iff.mp e
      split at e
      · cases e
        exact KL.tr (b := r2.2) rfl ((hg _ _ _ e2).tr (hf _ _ _ e1))
      · cases e
    · cases e
  · cases e
theorem kl_calX {α : Type} {dec : Option Value → Option α} {chk : List Value → AH → Bool} {m : MS} {as : Args} (hm : QK m) (ha : EK (α := List Value) as) : EK (calX dec chk m as) := fun env h r e => by
  obtain ⟨r1, e1, e⟩ := Option.bind_eq_some_iff.mp e
  split at e
  · obtain ⟨r2, e2, e⟩ := Option.bind_eq_some_iff.mp e
    obtain ⟨x, e3, e⟩ := Option.bind_eq_some_iff.mp e
    cases e
    exact (hm _ _ _ e2).tr (ha _ _ _ e1)
  · cases e
theorem kl_calS {chk : List Value → AH → Bool} {m : MS} {as : Args} (hm : QK m) (ha : EK (α := List Value) as) : TK (calS chk m as) := fun env h r e => by
  obtain ⟨r1, e1, e⟩ := Option.bind_eq_some_iff.mp e
  split at e
  · obtain ⟨r2, e2, e⟩ := Option.bind_eq_some_iff.mp e
    split at e
    · cases e
      exact (hm _ _ _ e2).tr (ha _ _ _ e1)
    · cases e
  · cases e
theorem kl_runM {n : Nat} {ret : Option FieldType} {b : St} (hb : TK b) : QK (runM n ret b) := fun vs h r e => by
  unfold runM at e
  split at e
  · obtain ⟨r1, e1, e⟩ := Option.bind_eq_some_iff.mp e
    split at e
    · split at e
      · cases e
        exact hb _ _ _ e1
      · cases e
    · cases e
  · cases e
theorem kl_skipS : TK skipS := fun env h r e => by cases e; rfl
theorem kl_contS : TK contS := fun env h r e => by cases e; rfl
theorem kl_brkS : TK brkS := fun env h r e => by cases e; rfl
theorem kl_retV : TK retV := fun env h r e => by cases e; rfl
theorem kl_retI {f : Ex Int32} (hf : EK f) : TK (retI f) := fun env h r e => by
  obtain ⟨r1, e1, e⟩ := Option.bind_eq_some_iff.mp e
  cases e
  exact hf _ _ _ e1
theorem kl_exS {α : Type} {f : Ex α} (hf : EK f) : TK (exS f) := fun env h r e => by
  obtain ⟨r1, e1, e⟩ := Option.bind_eq_some_iff.mp e
  cases e
  exact hf _ _ _ e1
theorem kl_lsI {k : Nat} {f : Ex Int32} (hf : EK f) : TK (lsI k f) := fun env h r e => by
  obtain ⟨r1, e1, e⟩ := Option.bind_eq_some_iff.mp e
  cases e
  exact hf _ _ _ e1
theorem kl_lsL {k : Nat} {f : Ex Int64} (hf : EK f) : TK (lsL k f) := fun env h r e => by
  obtain ⟨r1, e1, e⟩ := Option.bind_eq_some_iff.mp e
  cases e
  exact hf _ _ _ e1
theorem kl_incI {k : Nat} {n : Int32} : TK (incI k n) := fun env h r e => by
  unfold incI at e
  split at e
  · cases e; rfl
  · cases e
theorem kl_seqS {a b : St} (ha : TK a) (hb : TK b) : TK (seqS a b) := fun env h r e => by
  obtain ⟨r1, e1, e⟩ := Option.bind_eq_some_iff.mp e
  split at e
  · exact (hb _ _ _ e).tr (ha _ _ _ e1)
  · cases e
    exact ha _ _ _ e1
theorem kl_forB {a b : St} (ha : TK a) (hb : TK b) : TK (forB a b) := fun env h r e => by
  obtain ⟨r1, e1, e⟩ := Option.bind_eq_some_iff.mp e
  split at e
  · exact (hb _ _ _ e).tr (ha _ _ _ e1)
  · cases e
    exact ha _ _ _ e1
theorem kl_ifS {c : Ex Bool} {a : St} (hc : EK c) (ha : TK a) : TK (ifS c a) := fun env h r e => by
  obtain ⟨r1, e1, e⟩ := Option.bind_eq_some_iff.mp e
  split at e
  · exact (ha _ _ _ e).tr (hc _ _ _ e1)
  · cases e
    exact hc _ _ _ e1
theorem kl_ifeS {c : Ex Bool} {a b : St} (hc : EK c) (ha : TK a) (hb : TK b) : TK (ifeS c a b) := fun env h r e => by
  obtain ⟨r1, e1, e⟩ := Option.bind_eq_some_iff.mp e
  split at e
  · exact (ha _ _ _ e).tr (hc _ _ _ e1)
  · exact (hb _ _ _ e).tr (hc _ _ _ e1)
theorem kl_scS {n : Nat} {f : St} (hf : TK f) : TK (scS n f) := fun env h r e => by
  obtain ⟨r1, e1, e⟩ := Option.bind_eq_some_iff.mp e
  cases e
  exact (show KL h r1.2.2 from hf _ _ r1 e1)
theorem kl_whl {c : Ex Bool} {b : St} (hc : EK c) (hb : TK b) : ∀ n, TK (whl c b n)
  | 0 => fun env h r e => by cases e
  | n + 1 => fun env h r e => by
    obtain ⟨r1, e1, e⟩ := Option.bind_eq_some_iff.mp e
    split at e
    · obtain ⟨r2, e2, e⟩ := Option.bind_eq_some_iff.mp e
      have k2 := (hb _ _ _ e2).tr (hc _ _ _ e1)
      split at e
      · exact (kl_whl hc hb n _ _ _ e).tr k2
      · split at e
        · cases e
          exact k2
        · cases e
          exact k2
    · cases e
      exact hc _ _ _ e1
theorem kl_whileS {c : Ex Bool} {b : St} (hc : EK c) (hb : TK b) : TK (whileS c b) := kl_whl hc hb 100000
theorem kl_addI {f : Ex Int32} {g : Ex Int32} (hf : EK f) (hg : EK g) : EK (addI f g) := kl_binx hf hg
theorem kl_mulI {f : Ex Int32} {g : Ex Int32} (hf : EK f) (hg : EK g) : EK (mulI f g) := kl_binx hf hg
theorem kl_subI {f : Ex Int32} {g : Ex Int32} (hf : EK f) (hg : EK g) : EK (subI f g) := kl_binx hf hg
theorem kl_orL {f : Ex Int64} {g : Ex Int64} (hf : EK f) (hg : EK g) : EK (orL f g) := kl_binx hf hg
theorem kl_shlL {f : Ex Int64} {g : Ex Int32} (hf : EK f) (hg : EK g) : EK (shlL f g) := kl_binx hf hg
theorem kl_eqI {f : Ex Int32} {g : Ex Int32} (hf : EK f) (hg : EK g) : EK (eqI f g) := kl_binx hf hg
theorem kl_eqL {f : Ex Int64} {g : Ex Int64} (hf : EK f) (hg : EK g) : EK (eqL f g) := kl_binx hf hg
theorem kl_geI {f : Ex Int32} {g : Ex Int32} (hf : EK f) (hg : EK g) : EK (geI f g) := kl_binx hf hg
theorem kl_gtI {f : Ex Int32} {g : Ex Int32} (hf : EK f) (hg : EK g) : EK (gtI f g) := kl_binx hf hg
theorem kl_leI {f : Ex Int32} {g : Ex Int32} (hf : EK f) (hg : EK g) : EK (leI f g) := kl_binx hf hg
theorem kl_ltI {f : Ex Int32} {g : Ex Int32} (hf : EK f) (hg : EK g) : EK (ltI f g) := kl_binx hf hg
theorem kl_neI {f : Ex Int32} {g : Ex Int32} (hf : EK f) (hg : EK g) : EK (neI f g) := kl_binx hf hg
theorem kl_eq0 {f : Ex Int32} (hf : EK f) : EK (eq0 f) := kl_unax hf
theorem kl_gt0 {f : Ex Int32} (hf : EK f) : EK (gt0 f) := kl_unax hf
theorem kl_ne0 {f : Ex Int32} (hf : EK f) : EK (ne0 f) := kl_unax hf
theorem kl_i2L {f : Ex Int32} (hf : EK f) : EK (i2L f) := kl_unax hf
theorem kl_bX12_tellsAt : TK bX12_tellsAt := (kl_seqS (kl_astI (kl_getR kl_lvR) (kl_addI (kl_mulI kl_ciI (kl_getI kl_lvR)) kl_lvI) kl_lvI) kl_retV)
theorem kl_mX12_tellsAt : QK mX12_tellsAt := (kl_runM kl_bX12_tellsAt)
theorem kl_bX12_tellsUsual : TK bX12_tellsUsual := (kl_seqS (kl_calS kl_mX12_tellsAt (kl_agC kl_lvR (kl_agC kl_ciI (kl_agC kl_ciI kl_agN)))) (kl_seqS (kl_calS kl_mX12_tellsAt (kl_agC kl_lvR (kl_agC kl_ciI (kl_agC kl_ciI kl_agN)))) (kl_seqS (kl_calS kl_mX12_tellsAt (kl_agC kl_lvR (kl_agC kl_ciI (kl_agC kl_ciI kl_agN)))) (kl_seqS (kl_calS kl_mX12_tellsAt (kl_agC kl_lvR (kl_agC kl_ciI (kl_agC kl_ciI kl_agN)))) (kl_seqS (kl_calS kl_mX12_tellsAt (kl_agC kl_lvR (kl_agC kl_ciI (kl_agC kl_ciI kl_agN)))) (kl_seqS (kl_calS kl_mX12_tellsAt (kl_agC kl_lvR (kl_agC kl_ciI (kl_agC kl_ciI kl_agN)))) (kl_seqS (kl_calS kl_mX12_tellsAt (kl_agC kl_lvR (kl_agC kl_ciI (kl_agC kl_ciI kl_agN)))) (kl_seqS (kl_calS kl_mX12_tellsAt (kl_agC kl_lvR (kl_agC kl_ciI (kl_agC kl_ciI kl_agN)))) (kl_seqS (kl_calS kl_mX12_tellsAt (kl_agC kl_lvR (kl_agC kl_ciI (kl_agC kl_ciI kl_agN)))) kl_retV)))))))))
theorem kl_mX12_tellsUsual : QK mX12_tellsUsual := (kl_runM kl_bX12_tellsUsual)
theorem kl_lcX12_store_1 : EK lcX12_store_1 := (kl_ltI kl_lvI (kl_addI (kl_mulI kl_ciI (kl_getI kl_lvR)) kl_ciI))
theorem kl_lbX12_store_1 : TK lbX12_store_1 := (kl_forB (kl_astI (kl_getR kl_lvR) kl_lvI kl_ciI) kl_incI)
theorem kl_lcX12_ahead_1 : EK lcX12_ahead_1 := (kl_andX (kl_ltI kl_lvI (kl_getI kl_lvR)) (kl_orX (kl_eqI (kl_aldI (kl_getR kl_lvR) kl_lvI) kl_ciI) (kl_eqI (kl_aldI (kl_getR kl_lvR) kl_lvI) kl_ciI)))
theorem kl_lbX12_ahead_1 : TK lbX12_ahead_1 := kl_incI
theorem kl_bX12_isLetter : TK bX12_isLetter := (kl_retI (kl_iteX (kl_andX (kl_geI kl_lvI kl_ciI) (kl_leI kl_lvI kl_ciI)) kl_ciI kl_ciI))
theorem kl_mX12_isLetter : QK mX12_isLetter := (kl_runM kl_bX12_isLetter)
theorem kl_bX12_isDigit : TK bX12_isDigit := (kl_retI (kl_iteX (kl_andX (kl_geI kl_lvI kl_ciI) (kl_leI kl_lvI kl_ciI)) kl_ciI kl_ciI))
theorem kl_mX12_isDigit : QK mX12_isDigit := (kl_runM kl_bX12_isDigit)
theorem kl_lcX12_ahead_2 : EK lcX12_ahead_2 := (kl_andX (kl_ltI kl_lvI (kl_getI kl_lvR)) (kl_iteX (kl_ne0 kl_lvI) (kl_ne0 (kl_calX kl_mX12_isLetter (kl_agC (kl_aldI (kl_getR kl_lvR) kl_lvI) kl_agN))) (kl_ne0 (kl_calX kl_mX12_isDigit (kl_agC (kl_aldI (kl_getR kl_lvR) kl_lvI) kl_agN)))))
theorem kl_lbX12_ahead_2 : TK lbX12_ahead_2 := (kl_seqS (kl_ifS (kl_andX (kl_eqI kl_lvI kl_lvI) (kl_eqI (kl_getI kl_lvR) kl_ciI)) (kl_putI kl_lvR kl_lvI)) (kl_seqS (kl_ifS (kl_andX (kl_ltI kl_lvI kl_lvI) (kl_ne0 kl_lvI)) (kl_putL (by decide) kl_lvR (kl_orL (kl_shlL (kl_getL kl_lvR) kl_ciI) (kl_i2L (kl_aldI (kl_getR kl_lvR) kl_lvI))))) (kl_seqS (kl_ifS (kl_andX (kl_ltI kl_lvI kl_lvI) (kl_ne0 kl_lvI)) (kl_putI kl_lvR (kl_subI (kl_addI (kl_mulI kl_ciI (kl_getI kl_lvR)) (kl_aldI (kl_getR kl_lvR) kl_lvI)) kl_ciI))) (kl_seqS kl_incI kl_incI))))
theorem kl_bX12_ahead : TK bX12_ahead := (kl_seqS (kl_lsI (kl_getI kl_lvR)) (kl_seqS (kl_whileS kl_lcX12_ahead_1 kl_lbX12_ahead_1) (kl_seqS (kl_putI kl_lvR kl_lvI) (kl_seqS (kl_putI kl_lvR kl_lvI) (kl_seqS (kl_putI kl_lvR kl_ciI) (kl_seqS (kl_putI kl_lvR kl_ciI) (kl_seqS (kl_ifS (kl_geI kl_lvI (kl_getI kl_lvR)) kl_retV) (kl_seqS (kl_lsI (kl_calX kl_mX12_isLetter (kl_agC (kl_aldI (kl_getR kl_lvR) kl_lvI) kl_agN))) (kl_seqS (kl_lsI (kl_calX kl_mX12_isDigit (kl_agC (kl_aldI (kl_getR kl_lvR) kl_lvI) kl_agN))) (kl_seqS (kl_ifS (kl_andX (kl_andX (kl_orX (kl_ne0 kl_lvI) (kl_ne0 kl_lvI)) (kl_gt0 kl_lvI)) (kl_orX (kl_ne0 (kl_calX kl_mX12_isLetter (kl_agC (kl_aldI (kl_getR kl_lvR) (kl_subI kl_lvI kl_ciI)) kl_agN))) (kl_ne0 (kl_calX kl_mX12_isDigit (kl_agC (kl_aldI (kl_getR kl_lvR) (kl_subI kl_lvI kl_ciI)) kl_agN))))) (kl_putI kl_lvR kl_lvI)) (kl_seqS (kl_putI kl_lvR kl_ciI) (kl_seqS (kl_putL (by decide) kl_lvR kl_clL) (kl_seqS (kl_putI kl_lvR kl_ciI) (kl_seqS (kl_putI kl_lvR (kl_addI kl_lvI kl_ciI)) (kl_seqS (kl_ifS (kl_andX (kl_notX (kl_ne0 kl_lvI)) (kl_notX (kl_ne0 kl_lvI))) (kl_seqS (kl_putI kl_lvR (kl_aldI (kl_getR kl_lvR) kl_lvI)) kl_retV)) (kl_seqS (kl_putI kl_lvR (kl_iteX (kl_ne0 kl_lvI) kl_ciI kl_ciI)) (kl_seqS (kl_lsI (kl_iteX (kl_ne0 kl_lvI) kl_ciI kl_ciI)) (kl_seqS (kl_lsI kl_ciI) (kl_seqS (kl_whileS kl_lcX12_ahead_2 kl_lbX12_ahead_2) (kl_seqS (kl_putI kl_lvR kl_lvI) kl_retV))))))))))))))))))))
theorem kl_mX12_ahead : QK mX12_ahead := (kl_runM kl_bX12_ahead)
theorem kl_bX12_blame : TK bX12_blame := (kl_seqS (kl_ifS (kl_gt0 (kl_getI kl_lvR)) kl_retV) (kl_seqS (kl_putI kl_lvR kl_lvI) (kl_seqS (kl_putI kl_lvR kl_lvI) kl_retV)))
theorem kl_mX12_blame : QK mX12_blame := (kl_runM kl_bX12_blame)
theorem kl_bX12_lex : TK bX12_lex := (kl_seqS (kl_ifS (kl_neI (kl_getI kl_lvR) kl_ciI) (kl_calS kl_mX12_blame (kl_agC kl_lvR (kl_agC kl_ciI (kl_agC (kl_getI kl_lvR) kl_agN))))) kl_retV)
theorem kl_mX12_lex : QK mX12_lex := (kl_runM kl_bX12_lex)
theorem kl_bX12_isWord : TK bX12_isWord := (kl_retI (kl_iteX (kl_andX (kl_eqI (kl_getI kl_lvR) kl_ciI) (kl_eqL (kl_getL kl_lvR) kl_lvL)) kl_ciI kl_ciI))
theorem kl_mX12_isWord : QK mX12_isWord := (kl_runM kl_bX12_isWord)
theorem kl_bX12_mustWord : TK bX12_mustWord := (kl_seqS (kl_calS kl_mX12_lex (kl_agC kl_lvR kl_agN)) (kl_seqS (kl_ifS (kl_gt0 (kl_getI kl_lvR)) kl_retV) (kl_seqS (kl_ifS (kl_notX (kl_ne0 (kl_calX kl_mX12_isWord (kl_agC kl_lvR (kl_agC kl_lvL kl_agN))))) (kl_calS kl_mX12_blame (kl_agC kl_lvR (kl_agC kl_ciI (kl_agC (kl_getI kl_lvR) kl_agN))))) (kl_seqS (kl_ifS (kl_eq0 (kl_getI kl_lvR)) (kl_calS kl_mX12_ahead (kl_agC kl_lvR kl_agN))) kl_retV))))
theorem kl_mX12_mustWord : QK mX12_mustWord := (kl_runM kl_bX12_mustWord)
theorem kl_bX12_is : TK bX12_is := (kl_retI (kl_iteX (kl_andX (kl_geI kl_lvI kl_lvI) (kl_leI kl_lvI kl_lvI)) kl_ciI kl_ciI))
theorem kl_mX12_is : QK mX12_is := (kl_runM kl_bX12_is)
theorem kl_bX12_number : TK bX12_number := (kl_seqS (kl_calS kl_mX12_lex (kl_agC kl_lvR kl_agN)) (kl_seqS (kl_ifS (kl_gt0 (kl_getI kl_lvR)) (kl_retI kl_ciI)) (kl_seqS (kl_ifS (kl_neI (kl_getI kl_lvR) kl_ciI) (kl_calS kl_mX12_blame (kl_agC kl_lvR (kl_agC kl_ciI (kl_agC (kl_getI kl_lvR) kl_agN))))) (kl_seqS (kl_ifS (kl_andX (kl_eq0 (kl_getI kl_lvR)) (kl_notX (kl_ne0 (kl_calX kl_mX12_is (kl_agC (kl_getI kl_lvR) (kl_agC kl_lvI (kl_agC kl_lvI kl_agN))))))) (kl_calS kl_mX12_blame (kl_agC kl_lvR (kl_agC kl_ciI (kl_agC (kl_getI kl_lvR) kl_agN))))) (kl_seqS (kl_lsI (kl_getI kl_lvR)) (kl_seqS (kl_ifS (kl_eq0 (kl_getI kl_lvR)) (kl_calS kl_mX12_ahead (kl_agC kl_lvR kl_agN))) (kl_retI kl_lvI)))))))
theorem kl_mX12_number : QK mX12_number := (kl_runM kl_bX12_number)
theorem kl_bX12_boxing : TK bX12_boxing := (kl_seqS (kl_calS kl_mX12_mustWord (kl_agC kl_lvR (kl_agC kl_clL kl_agN))) (kl_seqS (kl_astI (kl_getR kl_lvR) (kl_addI (kl_mulI kl_ciI (kl_getI kl_lvR)) kl_ciI) (kl_calX kl_mX12_number (kl_agC kl_lvR (kl_agC kl_ciI (kl_agC kl_ciI kl_agN))))) kl_retV))
theorem kl_mX12_boxing : QK mX12_boxing := (kl_runM kl_bX12_boxing)
theorem kl_lcX12_finishes_1 : EK lcX12_finishes_1 := (kl_andX (kl_ltI kl_lvI (kl_getI kl_lvR)) (kl_orX (kl_eqI (kl_aldI (kl_getR kl_lvR) kl_lvI) kl_ciI) (kl_eqI (kl_aldI (kl_getR kl_lvR) kl_lvI) kl_ciI)))
theorem kl_lbX12_finishes_1 : TK lbX12_finishes_1 := kl_incI
theorem kl_bX12_isSign : TK bX12_isSign := (kl_retI (kl_iteX (kl_andX (kl_eqI (kl_getI kl_lvR) kl_ciI) (kl_eqI (kl_getI kl_lvR) kl_lvI)) kl_ciI kl_ciI))
theorem kl_mX12_isSign : QK mX12_isSign := (kl_runM kl_bX12_isSign)
theorem kl_bX12_must : TK bX12_must := (kl_seqS (kl_calS kl_mX12_lex (kl_agC kl_lvR kl_agN)) (kl_seqS (kl_ifS (kl_notX (kl_ne0 (kl_calX kl_mX12_isSign (kl_agC kl_lvR (kl_agC kl_lvI kl_agN))))) (kl_calS kl_mX12_blame (kl_agC kl_lvR (kl_agC kl_ciI (kl_agC (kl_getI kl_lvR) kl_agN))))) (kl_seqS (kl_ifS (kl_eq0 (kl_getI kl_lvR)) (kl_calS kl_mX12_ahead (kl_agC kl_lvR kl_agN))) kl_retV)))
theorem kl_mX12_must : QK mX12_must := (kl_runM kl_bX12_must)
theorem kl_bX12_finishes : TK bX12_finishes := (kl_seqS (kl_calS kl_mX12_lex (kl_agC kl_lvR kl_agN)) (kl_seqS (kl_ifS (kl_gt0 (kl_getI kl_lvR)) kl_retV) (kl_seqS (kl_lsI (kl_getI kl_lvR)) (kl_seqS (kl_whileS kl_lcX12_finishes_1 kl_lbX12_finishes_1) (kl_seqS (kl_ifS (kl_andX (kl_andX (kl_ne0 (kl_calX kl_mX12_isSign (kl_agC kl_lvR (kl_agC kl_ciI kl_agN)))) (kl_eqI kl_lvI kl_ciI)) (kl_ltI kl_lvI (kl_getI kl_lvR))) (kl_calS kl_mX12_blame (kl_agC kl_lvR (kl_agC kl_ciI (kl_agC kl_lvI kl_agN))))) (kl_seqS (kl_calS kl_mX12_must (kl_agC kl_lvR (kl_agC kl_ciI kl_agN))) kl_retV))))))
theorem kl_mX12_finishes : QK mX12_finishes := (kl_runM kl_bX12_finishes)
theorem kl_lcX12_store_2 : EK lcX12_store_2 := (kl_andX (kl_eq0 (kl_getI kl_lvR)) (kl_ne0 (kl_getI kl_lvR)))
theorem kl_bX12_isCounted : TK bX12_isCounted := (kl_seqS (kl_ifS (kl_andX (kl_eq0 (kl_getI kl_lvR)) (kl_ne0 kl_lvI)) (kl_calS kl_mX12_blame (kl_agC kl_lvR (kl_agC kl_ciI (kl_agC (kl_getI kl_lvR) kl_agN))))) (kl_seqS (kl_ifS (kl_eq0 (kl_getI kl_lvR)) (kl_calS kl_mX12_ahead (kl_agC kl_lvR kl_agN))) (kl_retI (kl_iteX (kl_eq0 (kl_getI kl_lvR)) kl_ciI kl_ciI))))
theorem kl_mX12_isCounted : QK mX12_isCounted := (kl_runM kl_bX12_isCounted)
theorem kl_bX12_telling : TK bX12_telling := (kl_seqS (kl_ifS (kl_notX (kl_ne0 (kl_calX kl_mX12_isCounted (kl_agC kl_lvR (kl_agC kl_ciI kl_agN))))) kl_retV) (kl_seqS (kl_lsI (kl_calX kl_mX12_number (kl_agC kl_lvR (kl_agC kl_lvI (kl_agC kl_lvI kl_agN))))) (kl_seqS (kl_ifS (kl_eq0 (kl_getI kl_lvR)) (kl_astI (kl_getR kl_lvR) (kl_addI (kl_mulI kl_ciI (kl_getI kl_lvR)) kl_lvI) kl_lvI)) kl_retV)))
theorem kl_mX12_telling : QK mX12_telling := (kl_runM kl_bX12_telling)
theorem kl_bX12_pushes : TK bX12_pushes := (kl_seqS (kl_astI (kl_getR kl_lvR) (kl_getI kl_lvR) kl_lvI) (kl_seqS (kl_astI (kl_getR kl_lvR) (kl_getI kl_lvR) kl_ciI) (kl_seqS (kl_astZ (kl_getR kl_lvR) (kl_getI kl_lvR) kl_ciI) (kl_seqS (kl_astI (kl_getR kl_lvR) (kl_getI kl_lvR) (kl_getI kl_lvR)) (kl_seqS (kl_updI kl_lvR kl_ciI) kl_retV)))))
theorem kl_mX12_pushes : QK mX12_pushes := (kl_runM kl_bX12_pushes)
theorem kl_lcX12_reads_1 : EK lcX12_reads_1 := (kl_ne0 kl_lvI)
theorem kl_bX12_isTest : TK bX12_isTest := (kl_retI (kl_iteX (kl_orX (kl_orX (kl_eqI kl_lvI kl_ciI) (kl_eqI kl_lvI kl_ciI)) (kl_eqI kl_lvI kl_ciI)) kl_ciI kl_ciI))
theorem kl_mX12_isTest : QK mX12_isTest := (kl_runM kl_bX12_isTest)
theorem kl_bX12_holdsBack : TK bX12_holdsBack := (kl_seqS (kl_astI (kl_getR kl_lvR) (kl_getI kl_lvR) kl_lvI) (kl_seqS (kl_updI kl_lvR kl_ciI) kl_retV))
theorem kl_mX12_holdsBack : QK mX12_holdsBack := (kl_runM kl_bX12_holdsBack)
theorem kl_bX12_opens : TK bX12_opens := (kl_seqS (kl_ifS (kl_eqI (kl_getI kl_lvR) kl_ciI) (kl_calS kl_mX12_blame (kl_agC kl_lvR (kl_agC kl_ciI (kl_agC (kl_getI kl_lvR) kl_agN))))) (kl_seqS (kl_ifS (kl_gt0 (kl_getI kl_lvR)) kl_retV) (kl_seqS (kl_updI kl_lvR kl_ciI) (kl_seqS (kl_calS kl_mX12_ahead (kl_agC kl_lvR kl_agN)) (kl_seqS (kl_calS kl_mX12_pushes (kl_agC kl_lvR (kl_agC kl_lvI kl_agN))) kl_retV)))))
theorem kl_mX12_opens : QK mX12_opens := (kl_runM kl_bX12_opens)
theorem kl_bX12_add : TK bX12_add := (kl_seqS (kl_astI (kl_getR kl_lvR) (kl_addI (kl_mulI kl_ciI (kl_getI kl_lvR)) (kl_getI kl_lvR)) kl_lvI) (kl_seqS (kl_astI (kl_getR kl_lvR) (kl_addI (kl_mulI kl_ciI (kl_getI kl_lvR)) (kl_getI kl_lvR)) kl_lvI) (kl_seqS (kl_updI kl_lvR kl_ciI) kl_retV)))
theorem kl_mX12_add : QK mX12_add := (kl_runM kl_bX12_add)
theorem kl_bX12_operand : TK bX12_operand := (kl_seqS (kl_calS kl_mX12_lex (kl_agC kl_lvR kl_agN)) (kl_seqS (kl_ifS (kl_gt0 (kl_getI kl_lvR)) (kl_retI kl_ciI)) (kl_seqS (kl_lsI (kl_subI (kl_getI kl_lvR) kl_ciI)) (kl_seqS (kl_lsI (kl_iteX (kl_andX (kl_ne0 (kl_calX kl_mX12_isTest (kl_agC (kl_aldI (kl_getR kl_lvR) kl_lvI) kl_agN))) (kl_ne0 (kl_aldI (kl_getR kl_lvR) kl_lvI))) kl_ciI kl_ciI)) (kl_seqS (kl_ifS (kl_andX (kl_ne0 kl_lvI) (kl_ne0 (kl_calX kl_mX12_isWord (kl_agC kl_lvR (kl_agC kl_clL kl_agN))))) (kl_seqS (kl_ifS (kl_eqI (kl_getI kl_lvR) kl_ciI) (kl_calS kl_mX12_blame (kl_agC kl_lvR (kl_agC kl_ciI (kl_agC (kl_getI kl_lvR) kl_agN))))) (kl_seqS (kl_ifS (kl_gt0 (kl_getI kl_lvR)) (kl_retI kl_ciI)) (kl_seqS (kl_updI kl_lvR kl_ciI) (kl_seqS (kl_calS kl_mX12_holdsBack (kl_agC kl_lvR (kl_agC kl_ciI kl_agN))) (kl_seqS (kl_calS kl_mX12_ahead (kl_agC kl_lvR kl_agN)) (kl_retI kl_ciI))))))) (kl_seqS (kl_astZ (kl_getR kl_lvR) kl_lvI kl_ciI) (kl_seqS (kl_ifS (kl_andX (kl_ne0 kl_lvI) (kl_ne0 (kl_calX kl_mX12_isSign (kl_agC kl_lvR (kl_agC kl_ciI kl_agN))))) (kl_seqS (kl_calS kl_mX12_opens (kl_agC kl_lvR (kl_agC kl_ciI kl_agN))) (kl_retI kl_ciI))) (kl_seqS (kl_ifS (kl_andX (kl_ne0 kl_lvI) (kl_ne0 (kl_calX kl_mX12_isWord (kl_agC kl_lvR (kl_agC kl_clL kl_agN))))) (kl_seqS (kl_calS kl_mX12_add (kl_agC kl_lvR (kl_agC kl_ciI (kl_agC kl_ciI kl_agN)))) (kl_seqS (kl_astI (kl_getR kl_lvR) kl_lvI kl_ciI) (kl_seqS (kl_calS kl_mX12_ahead (kl_agC kl_lvR kl_agN)) (kl_retI kl_ciI))))) (kl_seqS (kl_ifS (kl_ne0 (kl_calX kl_mX12_isSign (kl_agC kl_lvR (kl_agC kl_ciI kl_agN)))) (kl_seqS (kl_calS kl_mX12_opens (kl_agC kl_lvR (kl_agC kl_ciI kl_agN))) (kl_retI kl_ciI))) (kl_seqS (kl_ifS (kl_orX (kl_orX (kl_ne0 (kl_calX kl_mX12_isWord (kl_agC kl_lvR (kl_agC kl_clL kl_agN)))) (kl_ne0 (kl_calX kl_mX12_isWord (kl_agC kl_lvR (kl_agC kl_clL kl_agN))))) (kl_ne0 (kl_calX kl_mX12_isWord (kl_agC kl_lvR (kl_agC kl_clL kl_agN))))) (kl_scS (kl_seqS (kl_lsI (kl_iteX (kl_ne0 (kl_calX kl_mX12_isWord (kl_agC kl_lvR (kl_agC kl_clL kl_agN)))) kl_ciI (kl_iteX (kl_ne0 (kl_calX kl_mX12_isWord (kl_agC kl_lvR (kl_agC kl_clL kl_agN)))) kl_ciI kl_ciI))) (kl_seqS (kl_calS kl_mX12_ahead (kl_agC kl_lvR kl_agN)) (kl_seqS (kl_calS kl_mX12_lex (kl_agC kl_lvR kl_agN)) (kl_seqS (kl_ifS (kl_notX (kl_ne0 (kl_calX kl_mX12_isSign (kl_agC kl_lvR (kl_agC kl_ciI kl_agN))))) (kl_calS kl_mX12_blame (kl_agC kl_lvR (kl_agC kl_ciI (kl_agC (kl_getI kl_lvR) kl_agN))))) (kl_seqS (kl_calS kl_mX12_opens (kl_agC kl_lvR (kl_agC (kl_iteX (kl_eqI kl_lvI kl_ciI) kl_ciI kl_ciI) kl_agN))) (kl_seqS (kl_ifS (kl_eq0 (kl_getI kl_lvR)) (kl_astI (kl_getR kl_lvR) (kl_subI (kl_getI kl_lvR) kl_ciI) kl_lvI)) (kl_retI kl_ciI))))))))) (kl_seqS (kl_lsI (kl_iteX (kl_eqI (kl_getI kl_lvR) kl_ciI) kl_ciI (kl_iteX (kl_ne0 (kl_calX kl_mX12_isWord (kl_agC kl_lvR (kl_agC kl_clL kl_agN)))) kl_ciI (kl_iteX (kl_ne0 (kl_calX kl_mX12_isWord (kl_agC kl_lvR (kl_agC kl_clL kl_agN)))) kl_ciI (kl_iteX (kl_ne0 (kl_calX kl_mX12_isWord (kl_agC kl_lvR (kl_agC kl_clL kl_agN)))) kl_ciI (kl_iteX (kl_ne0 (kl_calX kl_mX12_isWord (kl_agC kl_lvR (kl_agC kl_clL kl_agN)))) kl_ciI (kl_iteX (kl_ne0 (kl_calX kl_mX12_isWord (kl_agC kl_lvR (kl_agC kl_clL kl_agN)))) kl_ciI (kl_iteX (kl_ne0 (kl_calX kl_mX12_isWord (kl_agC kl_lvR (kl_agC kl_clL kl_agN)))) kl_ciI (kl_iteX (kl_ne0 (kl_calX kl_mX12_isWord (kl_agC kl_lvR (kl_agC kl_clL kl_agN)))) kl_ciI (kl_iteX (kl_ne0 (kl_calX kl_mX12_isWord (kl_agC kl_lvR (kl_agC kl_clL kl_agN)))) kl_ciI (kl_iteX (kl_ne0 (kl_calX kl_mX12_isWord (kl_agC kl_lvR (kl_agC kl_clL kl_agN)))) kl_ciI (kl_iteX (kl_ne0 (kl_calX kl_mX12_isWord (kl_agC kl_lvR (kl_agC kl_clL kl_agN)))) kl_ciI kl_ciI)))))))))))) (kl_seqS (kl_ifS (kl_orX (kl_andX (kl_eqI kl_lvI kl_ciI) (kl_eqI (kl_getI kl_lvR) kl_ciI)) (kl_andX (kl_gtI kl_lvI kl_ciI) (kl_neI (kl_iteX (kl_ltI kl_lvI kl_ciI) kl_ciI (kl_iteX (kl_ltI kl_lvI kl_ciI) kl_ciI kl_ciI)) (kl_getI kl_lvR)))) (kl_lsI kl_ciI)) (kl_seqS (kl_ifS (kl_eqI kl_lvI kl_ciI) (kl_calS kl_mX12_blame (kl_agC kl_lvR (kl_agC kl_ciI (kl_agC (kl_getI kl_lvR) kl_agN))))) (kl_seqS (kl_ifS (kl_gt0 (kl_getI kl_lvR)) (kl_retI kl_ciI)) (kl_seqS (kl_calS kl_mX12_add (kl_agC kl_lvR (kl_agC kl_lvI (kl_agC (kl_getI kl_lvR) kl_agN)))) (kl_seqS (kl_calS kl_mX12_ahead (kl_agC kl_lvR kl_agN)) (kl_retI kl_ciI)))))))))))))))))
theorem kl_mX12_operand : QK mX12_operand := (kl_runM kl_bX12_operand)
theorem kl_bX12_rank : TK bX12_rank := (kl_retI (kl_iteX (kl_eqI kl_lvI kl_ciI) kl_ciI (kl_iteX (kl_eqI kl_lvI kl_ciI) kl_ciI (kl_iteX (kl_eqI kl_lvI kl_ciI) kl_ciI (kl_iteX (kl_orX (kl_orX (kl_eqI kl_lvI kl_ciI) (kl_eqI kl_lvI kl_ciI)) (kl_eqI kl_lvI kl_ciI)) kl_ciI (kl_iteX (kl_orX (kl_eqI kl_lvI kl_ciI) (kl_eqI kl_lvI kl_ciI)) kl_ciI kl_ciI))))))
theorem kl_mX12_rank : QK mX12_rank := (kl_runM kl_bX12_rank)
theorem kl_lcX12_joins_1 : EK lcX12_joins_1 := (kl_andX (kl_gtI (kl_getI kl_lvR) (kl_aldI (kl_getR kl_lvR) (kl_subI (kl_getI kl_lvR) kl_ciI))) (kl_geI (kl_calX kl_mX12_rank (kl_agC (kl_aldI (kl_getR kl_lvR) (kl_subI (kl_getI kl_lvR) kl_ciI)) kl_agN)) kl_lvI))
theorem kl_lbX12_joins_1 : TK lbX12_joins_1 := (kl_seqS (kl_updI kl_lvR kl_ciI) (kl_seqS (kl_calS kl_mX12_add (kl_agC kl_lvR (kl_agC (kl_aldI (kl_getR kl_lvR) (kl_getI kl_lvR)) (kl_agC kl_ciI kl_agN)))) (kl_ifS (kl_eqI (kl_aldI (kl_getR kl_lvR) (kl_getI kl_lvR)) kl_ciI) (kl_updI kl_lvR kl_ciI))))
theorem kl_bX12_joins : TK bX12_joins := (kl_seqS (kl_whileS kl_lcX12_joins_1 kl_lbX12_joins_1) kl_retV)
theorem kl_mX12_joins : QK mX12_joins := (kl_runM kl_bX12_joins)
theorem kl_bX12_goesOn : TK bX12_goesOn := (kl_seqS (kl_calS kl_mX12_lex (kl_agC kl_lvR kl_agN)) (kl_seqS (kl_ifS (kl_gt0 (kl_getI kl_lvR)) (kl_retI kl_ciI)) (kl_seqS (kl_lsI (kl_subI (kl_getI kl_lvR) kl_ciI)) (kl_seqS (kl_lsI (kl_aldI (kl_getR kl_lvR) kl_lvI)) (kl_seqS (kl_lsI (kl_calX kl_mX12_isTest (kl_agC kl_lvI kl_agN))) (kl_seqS (kl_ifS (kl_andX (kl_ltI (kl_aldI (kl_getR kl_lvR) kl_lvI) kl_ciI) (kl_orX (kl_orX (kl_orX (kl_orX (kl_ne0 (kl_calX kl_mX12_isSign (kl_agC kl_lvR (kl_agC kl_ciI kl_agN)))) (kl_ne0 (kl_calX kl_mX12_isSign (kl_agC kl_lvR (kl_agC kl_ciI kl_agN))))) (kl_ne0 (kl_calX kl_mX12_isSign (kl_agC kl_lvR (kl_agC kl_ciI kl_agN))))) (kl_ne0 (kl_calX kl_mX12_isSign (kl_agC kl_lvR (kl_agC kl_ciI kl_agN))))) (kl_ne0 (kl_calX kl_mX12_isSign (kl_agC kl_lvR (kl_agC kl_ciI kl_agN)))))) (kl_seqS (kl_calS kl_mX12_joins (kl_agC kl_lvR (kl_agC (kl_iteX (kl_orX (kl_ne0 (kl_calX kl_mX12_isSign (kl_agC kl_lvR (kl_agC kl_ciI kl_agN)))) (kl_ne0 (kl_calX kl_mX12_isSign (kl_agC kl_lvR (kl_agC kl_ciI kl_agN))))) kl_ciI kl_ciI) kl_agN))) (kl_seqS (kl_calS kl_mX12_holdsBack (kl_agC kl_lvR (kl_agC (kl_iteX (kl_ne0 (kl_calX kl_mX12_isSign (kl_agC kl_lvR (kl_agC kl_ciI kl_agN)))) kl_ciI (kl_iteX (kl_ne0 (kl_calX kl_mX12_isSign (kl_agC kl_lvR (kl_agC kl_ciI kl_agN)))) kl_ciI (kl_iteX (kl_ne0 (kl_calX kl_mX12_isSign (kl_agC kl_lvR (kl_agC kl_ciI kl_agN)))) kl_ciI (kl_iteX (kl_ne0 (kl_calX kl_mX12_isSign (kl_agC kl_lvR (kl_agC kl_ciI kl_agN)))) kl_ciI kl_ciI)))) kl_agN))) (kl_seqS (kl_calS kl_mX12_ahead (kl_agC kl_lvR kl_agN)) (kl_seqS (kl_putZ kl_lvR kl_ciI) (kl_retI kl_ciI)))))) (kl_seqS (kl_ifS (kl_andX (kl_andX (kl_ne0 kl_lvI) (kl_eq0 (kl_aldI (kl_getR kl_lvR) kl_lvI))) (kl_orX (kl_orX (kl_ne0 (kl_calX kl_mX12_isSign (kl_agC kl_lvR (kl_agC kl_ciI kl_agN)))) (kl_ne0 (kl_calX kl_mX12_isSign (kl_agC kl_lvR (kl_agC kl_ciI kl_agN))))) (kl_ne0 (kl_calX kl_mX12_isSign (kl_agC kl_lvR (kl_agC kl_ciI kl_agN)))))) (kl_seqS (kl_calS kl_mX12_joins (kl_agC kl_lvR (kl_agC kl_ciI kl_agN))) (kl_seqS (kl_calS kl_mX12_holdsBack (kl_agC kl_lvR (kl_agC (kl_iteX (kl_ne0 (kl_calX kl_mX12_isSign (kl_agC kl_lvR (kl_agC kl_ciI kl_agN)))) kl_ciI (kl_iteX (kl_ne0 (kl_calX kl_mX12_isSign (kl_agC kl_lvR (kl_agC kl_ciI kl_agN)))) kl_ciI kl_ciI)) kl_agN))) (kl_seqS (kl_astI (kl_getR kl_lvR) kl_lvI kl_ciI) (kl_seqS (kl_calS kl_mX12_ahead (kl_agC kl_lvR kl_agN)) (kl_seqS (kl_putZ kl_lvR kl_ciI) (kl_retI kl_ciI))))))) (kl_seqS (kl_ifS (kl_andX (kl_ne0 kl_lvI) (kl_orX (kl_ne0 (kl_calX kl_mX12_isWord (kl_agC kl_lvR (kl_agC kl_clL kl_agN)))) (kl_ne0 (kl_calX kl_mX12_isWord (kl_agC kl_lvR (kl_agC kl_clL kl_agN)))))) (kl_scS (kl_seqS (kl_ifS (kl_eq0 (kl_aldI (kl_getR kl_lvR) kl_lvI)) (kl_calS kl_mX12_blame (kl_agC kl_lvR (kl_agC kl_ciI (kl_agC (kl_getI kl_lvR) kl_agN))))) (kl_seqS (kl_ifS (kl_gt0 (kl_getI kl_lvR)) (kl_retI kl_ciI)) (kl_seqS (kl_lsI (kl_calX kl_mX12_isWord (kl_agC kl_lvR (kl_agC kl_clL kl_agN)))) (kl_seqS (kl_calS kl_mX12_joins (kl_agC kl_lvR (kl_agC (kl_iteX (kl_ne0 kl_lvI) kl_ciI kl_ciI) kl_agN))) (kl_seqS (kl_calS kl_mX12_holdsBack (kl_agC kl_lvR (kl_agC (kl_iteX (kl_ne0 kl_lvI) kl_ciI kl_ciI) kl_agN))) (kl_seqS (kl_astI (kl_getR kl_lvR) kl_lvI kl_ciI) (kl_seqS (kl_astZ (kl_getR kl_lvR) kl_lvI kl_ciI) (kl_seqS (kl_calS kl_mX12_ahead (kl_agC kl_lvR kl_agN)) (kl_seqS (kl_putZ kl_lvR kl_ciI) (kl_retI kl_ciI)))))))))))) (kl_seqS (kl_ifS (kl_andX (kl_ne0 kl_lvI) (kl_eq0 (kl_aldI (kl_getR kl_lvR) kl_lvI))) (kl_calS kl_mX12_blame (kl_agC kl_lvR (kl_agC kl_ciI (kl_agC (kl_getI kl_lvR) kl_agN))))) (kl_seqS (kl_ifS (kl_ltI kl_lvI kl_ciI) (kl_seqS (kl_ifS (kl_eq0 (kl_getI kl_lvR)) (kl_calS kl_mX12_joins (kl_agC kl_lvR (kl_agC kl_ciI kl_agN)))) (kl_retI kl_ciI))) (kl_seqS (kl_ifS (kl_orX (kl_eqI kl_lvI kl_ciI) (kl_eqI kl_lvI kl_ciI)) (kl_seqS (kl_ifS (kl_notX (kl_ne0 (kl_calX kl_mX12_isSign (kl_agC kl_lvR (kl_agC kl_ciI kl_agN))))) (kl_calS kl_mX12_blame (kl_agC kl_lvR (kl_agC kl_ciI (kl_agC (kl_getI kl_lvR) kl_agN))))) (kl_seqS (kl_ifS (kl_gt0 (kl_getI kl_lvR)) (kl_retI kl_ciI)) (kl_seqS (kl_calS kl_mX12_joins (kl_agC kl_lvR (kl_agC kl_ciI kl_agN))) (kl_seqS (kl_astI (kl_getR kl_lvR) kl_lvI (kl_iteX (kl_eqI kl_lvI kl_ciI) kl_ciI kl_ciI)) (kl_seqS (kl_astI (kl_getR kl_lvR) kl_lvI kl_ciI) (kl_seqS (kl_calS kl_mX12_ahead (kl_agC kl_lvR kl_agN)) (kl_seqS (kl_putZ kl_lvR kl_ciI) (kl_retI kl_ciI))))))))) (kl_seqS (kl_ifS (kl_notX (kl_ne0 (kl_calX kl_mX12_isSign (kl_agC kl_lvR (kl_agC (kl_iteX (kl_eqI kl_lvI kl_ciI) kl_ciI kl_ciI) kl_agN))))) (kl_calS kl_mX12_blame (kl_agC kl_lvR (kl_agC kl_ciI (kl_agC (kl_getI kl_lvR) kl_agN))))) (kl_seqS (kl_ifS (kl_gt0 (kl_getI kl_lvR)) (kl_retI kl_ciI)) (kl_seqS (kl_calS kl_mX12_joins (kl_agC kl_lvR (kl_agC kl_ciI kl_agN))) (kl_seqS (kl_updI kl_lvR kl_ciI) (kl_seqS (kl_updI kl_lvR kl_ciI) (kl_seqS (kl_ifS (kl_eqI kl_lvI kl_ciI) (kl_calS kl_mX12_add (kl_agC kl_lvR (kl_agC (kl_aldI (kl_getR kl_lvR) kl_lvI) (kl_agC kl_ciI kl_agN))))) (kl_seqS (kl_ifS (kl_eqI kl_lvI kl_ciI) (kl_astI (kl_getR kl_lvR) (kl_subI (kl_getI kl_lvR) kl_ciI) kl_ciI)) (kl_seqS (kl_calS kl_mX12_ahead (kl_agC kl_lvR kl_agN)) (kl_retI kl_ciI))))))))))))))))))))
theorem kl_mX12_goesOn : QK mX12_goesOn := (kl_runM kl_bX12_goesOn)
theorem kl_lbX12_reads_1 : TK lbX12_reads_1 := (kl_seqS (kl_ifeS (kl_notX (kl_ne0 (kl_getI kl_lvR))) (kl_putZ kl_lvR (kl_calX kl_mX12_operand (kl_agC kl_lvR kl_agN))) (kl_lsI (kl_calX kl_mX12_goesOn (kl_agC kl_lvR kl_agN)))) (kl_lsI (kl_iteX (kl_andX (kl_ne0 kl_lvI) (kl_eq0 (kl_getI kl_lvR))) kl_ciI kl_ciI)))
theorem kl_bX12_reads : TK bX12_reads := (kl_seqS (kl_ifS (kl_gt0 (kl_getI kl_lvR)) kl_retV) (kl_seqS (kl_putI kl_lvR kl_ciI) (kl_seqS (kl_putI kl_lvR kl_ciI) (kl_seqS (kl_putI kl_lvR kl_ciI) (kl_seqS (kl_putZ kl_lvR kl_ciI) (kl_seqS (kl_calS kl_mX12_pushes (kl_agC kl_lvR (kl_agC (kl_iteX (kl_ne0 kl_lvI) kl_ciI kl_ciI) kl_agN))) (kl_seqS (kl_lsI kl_ciI) (kl_seqS (kl_whileS kl_lcX12_reads_1 kl_lbX12_reads_1) kl_retV))))))))
theorem kl_mX12_reads : QK mX12_reads := (kl_runM kl_bX12_reads)
theorem kl_bX12_reading : TK bX12_reading := (kl_seqS (kl_lsI (kl_addI (kl_mulI kl_ciI (kl_getI kl_lvR)) kl_lvI)) (kl_seqS (kl_ifS (kl_notX (kl_ne0 (kl_calX kl_mX12_isCounted (kl_agC kl_lvR (kl_agC (kl_iteX (kl_neI (kl_aldI (kl_getR kl_lvR) kl_lvI) kl_ciI) kl_ciI kl_ciI) kl_agN))))) kl_retV) (kl_seqS (kl_putI kl_lvR kl_lvI) (kl_seqS (kl_astI (kl_getR kl_lvR) kl_lvI (kl_getI kl_lvR)) (kl_seqS (kl_calS kl_mX12_reads (kl_agC kl_lvR (kl_agC kl_ciI kl_agN))) (kl_seqS (kl_astI (kl_getR kl_lvR) kl_lvI (kl_getI kl_lvR)) kl_retV))))))
theorem kl_mX12_reading : QK mX12_reading := (kl_runM kl_bX12_reading)
theorem kl_bX12_statement : TK bX12_statement := (kl_seqS (kl_calS kl_mX12_lex (kl_agC kl_lvR kl_agN)) (kl_seqS (kl_ifS (kl_gt0 (kl_getI kl_lvR)) kl_retV) (kl_seqS (kl_ifeS (kl_ne0 (kl_calX kl_mX12_isWord (kl_agC kl_lvR (kl_agC kl_clL kl_agN)))) (kl_calS kl_mX12_telling (kl_agC kl_lvR (kl_agC kl_ciI (kl_agC kl_ciI (kl_agC kl_ciI kl_agN))))) (kl_ifeS (kl_ne0 (kl_calX kl_mX12_isWord (kl_agC kl_lvR (kl_agC kl_clL kl_agN)))) (kl_calS kl_mX12_telling (kl_agC kl_lvR (kl_agC kl_ciI (kl_agC kl_ciI (kl_agC kl_ciI kl_agN))))) (kl_ifeS (kl_ne0 (kl_calX kl_mX12_isWord (kl_agC kl_lvR (kl_agC kl_clL kl_agN)))) (kl_calS kl_mX12_telling (kl_agC kl_lvR (kl_agC kl_ciI (kl_agC kl_ciI (kl_agC kl_ciI kl_agN))))) (kl_ifeS (kl_ne0 (kl_calX kl_mX12_isWord (kl_agC kl_lvR (kl_agC kl_clL kl_agN)))) (kl_calS kl_mX12_telling (kl_agC kl_lvR (kl_agC kl_ciI (kl_agC kl_ciI (kl_agC kl_ciI kl_agN))))) (kl_ifeS (kl_ne0 (kl_calX kl_mX12_isWord (kl_agC kl_lvR (kl_agC kl_clL kl_agN)))) (kl_calS kl_mX12_telling (kl_agC kl_lvR (kl_agC kl_ciI (kl_agC kl_ciI (kl_agC kl_ciI kl_agN))))) (kl_ifeS (kl_ne0 (kl_calX kl_mX12_isWord (kl_agC kl_lvR (kl_agC kl_clL kl_agN)))) (kl_calS kl_mX12_telling (kl_agC kl_lvR (kl_agC kl_ciI (kl_agC kl_ciI (kl_agC kl_ciI kl_agN))))) (kl_ifeS (kl_ne0 (kl_calX kl_mX12_isWord (kl_agC kl_lvR (kl_agC kl_clL kl_agN)))) (kl_calS kl_mX12_telling (kl_agC kl_lvR (kl_agC kl_ciI (kl_agC kl_ciI (kl_agC kl_ciI kl_agN))))) (kl_ifeS (kl_ne0 (kl_calX kl_mX12_isWord (kl_agC kl_lvR (kl_agC kl_clL kl_agN)))) (kl_calS kl_mX12_telling (kl_agC kl_lvR (kl_agC kl_ciI (kl_agC kl_ciI (kl_agC kl_ciI kl_agN))))) (kl_ifeS (kl_ne0 (kl_calX kl_mX12_isWord (kl_agC kl_lvR (kl_agC kl_clL kl_agN)))) (kl_calS kl_mX12_telling (kl_agC kl_lvR (kl_agC kl_ciI (kl_agC kl_ciI (kl_agC kl_ciI kl_agN))))) (kl_ifeS (kl_ne0 (kl_calX kl_mX12_isWord (kl_agC kl_lvR (kl_agC kl_clL kl_agN)))) (kl_calS kl_mX12_reading (kl_agC kl_lvR (kl_agC kl_ciI kl_agN))) (kl_ifeS (kl_ne0 (kl_calX kl_mX12_isWord (kl_agC kl_lvR (kl_agC kl_clL kl_agN)))) (kl_calS kl_mX12_reading (kl_agC kl_lvR (kl_agC kl_ciI kl_agN))) (kl_ifeS (kl_ne0 (kl_calX kl_mX12_isWord (kl_agC kl_lvR (kl_agC kl_clL kl_agN)))) (kl_calS kl_mX12_reading (kl_agC kl_lvR (kl_agC kl_ciI kl_agN))) (kl_calS kl_mX12_blame (kl_agC kl_lvR (kl_agC kl_ciI (kl_agC (kl_getI kl_lvR) kl_agN)))))))))))))))) kl_retV)))
theorem kl_mX12_statement : QK mX12_statement := (kl_runM kl_bX12_statement)
theorem kl_lbX12_store_2 : TK lbX12_store_2 := (kl_seqS (kl_calS kl_mX12_statement (kl_agC kl_lvR kl_agN)) (kl_seqS kl_incI (kl_calS kl_mX12_finishes (kl_agC kl_lvR (kl_agC kl_lvI kl_agN)))))
theorem kl_bX12_refuses : TK bX12_refuses := (kl_seqS (kl_incA (kl_getR kl_lvR) kl_lvI) (kl_retI kl_ciI))
theorem kl_mX12_refuses : QK mX12_refuses := (kl_runM kl_bX12_refuses)
theorem kl_lcX12_resets_1 : EK lcX12_resets_1 := (kl_ltI kl_lvI kl_ciI)
theorem kl_lbX12_resets_1 : TK lbX12_resets_1 := (kl_forB (kl_astI (kl_getR kl_lvR) kl_lvI kl_ciI) kl_incI)
theorem kl_bX12_resets : TK bX12_resets := (kl_seqS (kl_scS (kl_seqS (kl_lsI kl_ciI) (kl_whileS kl_lcX12_resets_1 kl_lbX12_resets_1))) (kl_seqS (kl_putI kl_lvR kl_ciI) (kl_seqS (kl_putI kl_lvR kl_ciI) (kl_seqS (kl_putI kl_lvR kl_ciI) kl_retV))))
theorem kl_mX12_resets : QK mX12_resets := (kl_runM kl_bX12_resets)
theorem kl_bX12_store : TK bX12_store := (kl_seqS (kl_putI kl_lvR (kl_getI kl_lvR)) (kl_seqS (kl_putI kl_lvR kl_ciI) (kl_seqS (kl_putI kl_lvR kl_ciI) (kl_seqS (kl_putI kl_lvR kl_ciI) (kl_seqS (kl_putI kl_lvR kl_ciI) (kl_seqS (kl_putI kl_lvR (kl_subI kl_ciI (kl_getI kl_lvR))) (kl_seqS (kl_calS kl_mX12_tellsUsual (kl_agC kl_lvR kl_agN)) (kl_seqS (kl_scS (kl_seqS (kl_lsI (kl_mulI kl_ciI (kl_getI kl_lvR))) (kl_whileS kl_lcX12_store_1 kl_lbX12_store_1))) (kl_seqS (kl_putI kl_lvR kl_ciI) (kl_seqS (kl_lsI kl_ciI) (kl_seqS (kl_calS kl_mX12_ahead (kl_agC kl_lvR kl_agN)) (kl_seqS (kl_calS kl_mX12_boxing (kl_agC kl_lvR kl_agN)) (kl_seqS (kl_calS kl_mX12_finishes (kl_agC kl_lvR (kl_agC kl_lvI kl_agN))) (kl_seqS (kl_whileS kl_lcX12_store_2 kl_lbX12_store_2) (kl_seqS (kl_putI kl_lvR (kl_getI kl_lvR)) (kl_seqS (kl_putI kl_lvR (kl_getI kl_lvR)) (kl_seqS (kl_ifS (kl_gt0 (kl_getI kl_lvR)) (kl_retI (kl_calX kl_mX12_refuses (kl_agC kl_lvR (kl_agC kl_ciI kl_agN))))) (kl_seqS (kl_putI kl_lvR (kl_getI kl_lvR)) (kl_seqS (kl_putZ kl_lvR kl_ciI) (kl_seqS (kl_calS kl_mX12_resets (kl_agC kl_lvR kl_agN)) (kl_retI kl_lvI)))))))))))))))))))))
theorem kl_mX12_store : QK mX12_store := (kl_runM kl_bX12_store)
