/-! ===== L2: the next token (reference) ===== -/
theorem lI_pack (w x : Nat) (hw : w < 281474976710656) (hx : x < 256) : (lI (w : Int) <<< ((iI 8).toInt64 &&& 63)) ||| lI (x : Int) = lI ((w * 256 + x : Nat) : Int) := by
  have e8 : ((iI 8).toInt64 &&& 63) = 8 := by decide
  rw [e8]
  apply Int64.toBitVec_inj.mp
  rw [Int64.toBitVec_or, Int64.toBitVec_shiftLeft]
  unfold lI
  rw [Int64.toBitVec_ofInt, Int64.toBitVec_ofInt, Int64.toBitVec_ofInt, BitVec.ofInt_natCast, BitVec.ofInt_natCast, BitVec.ofInt_natCast]
  have e : (Int64.toBitVec 8).smod 64 = 8#64 := by decide
  rw [e]
  apply BitVec.eq_of_toNat_eq
  rw [BitVec.toNat_or, BitVec.toNat_ofNat, BitVec.toNat_ofNat]
  have e2 : (BitVec.ofNat 64 w <<< 8#64).toNat = w <<< 8 := by
    show (BitVec.ofNat 64 w <<< (8#64).toNat).toNat = _
    rw [BitVec.toNat_shiftLeft, BitVec.toNat_ofNat]
    show ((w % 2 ^ 64) <<< 8) % 2 ^ 64 = w <<< 8
    rw [Nat.shiftLeft_eq, Nat.shiftLeft_eq]
    omega
  rw [e2, Nat.mod_eq_of_lt (by omega), Nat.mod_eq_of_lt (by omega), ← Nat.shiftLeft_add_eq_or_of_lt (by omega), Nat.shiftLeft_eq]
theorem tk_prev0 (T : List Int) (e : Nat) (h : e < rn blk T e) : ¬ ltt (T.getD (rn blk T e - 1) (-1)) = true ∧ ¬ dgt (T.getD (rn blk T e - 1) (-1)) = true := by
  have := (rn_spec blk_m T e).2.2.1 (rn blk T e - 1) (by omega) (by omega)
  have := blk_iff.mp this
  exact ⟨fun z => by have := ltt_iff.mp z; omega, fun z => by have := dgt_iff.mp z; omega⟩
/-- ahead of a token stands no byte of its own sort -/
theorem tk_prev (T : List Int) : ∀ k, tkP T k ≠ 0 → (ltt (T.getD (tkP T k) (-1)) = true → ¬ ltt (T.getD (tkP T k - 1) (-1)) = true) ∧ (dgt (T.getD (tkP T k) (-1)) = true → ¬ dgt (T.getD (tkP T k - 1) (-1)) = true)
  | 0, h => by
    have := tk_prev0 T 0 (by show 0 < tkP T 0; omega)
    exact ⟨fun _ => this.1, fun _ => this.2⟩
  | k + 1, h => by
    by_cases z : tkE T (tkP T k) < rn blk T (tkE T (tkP T k))
    · have := tk_prev0 T _ z
      exact ⟨fun _ => this.1, fun _ => this.2⟩
    · have e : tkP T (k + 1) = tkE T (tkP T k) := by
        have := (rn_spec blk_m T (tkE T (tkP T k))).1
        show rn blk T (tkE T (tkP T k)) = _
        omega
      by_cases y : tkP T k < T.length
      · have gt := (tkE_gt y).1
        rw [e]
        unfold tkE at gt ⊢
        rw [if_neg (by omega)] at gt ⊢
        by_cases c1 : ltt (T.getD (tkP T k) (-1)) = true
        · rw [if_pos c1] at gt ⊢
          obtain ⟨a1, a2, a3, a4⟩ := rn_spec ltt_m T (tkP T k)
          refine ⟨fun w => (by rw [w] at a4; cases a4), fun _ w => ?_⟩
          have b := ltt_iff.mp (a3 (rn ltt T (tkP T k) - 1) (by omega) (by omega))
          have := dgt_iff.mp w
          omega
        · rw [if_neg c1] at gt ⊢
          by_cases c2 : dgt (T.getD (tkP T k) (-1)) = true
          · rw [if_pos c2] at gt ⊢
            obtain ⟨a1, a2, a3, a4⟩ := rn_spec dgt_m T (tkP T k)
            refine ⟨fun _ w => ?_, fun w => (by rw [w] at a4; cases a4)⟩
            have b := dgt_iff.mp (a3 (rn dgt T (tkP T k) - 1) (by omega) (by omega))
            have := ltt_iff.mp w
            omega
          · rw [if_neg c2]
            rw [Nat.add_sub_cancel]
            exact ⟨fun _ => c1, fun _ => c2⟩
      · have le := tkP_le T k
        have eE : tkE T (tkP T k) = T.length := by unfold tkE; rw [if_pos (by omega)]; omega
        rw [e, eE]
        have g : T.getD T.length (-1) = -1 := by rw [List.getD_eq_getElem?_getD, List.getElem?_eq_none (Nat.le_refl _)]; rfl
        rw [g, ltt_m, dgt_m]
        exact ⟨fun w => (by cases w), fun w => (by cases w)⟩
theorem pkv_rg : ∀ l : List Int, (∀ x ∈ l, 0 ≤ x ∧ x ≤ 255) → ∀ (c : Int) (n : Nat), 0 ≤ c → c < ((256 ^ n : Nat) : Int) → 0 ≤ l.foldl (fun c x => c * 256 + (x - 0)) c ∧ l.foldl (fun c x => c * 256 + (x - 0)) c < ((256 ^ (n + l.length) : Nat) : Int)
  | [], _, c, n, h1, h2 => ⟨h1, h2⟩
  | x :: l, h, c, n, h1, h2 => by
    have hx := h x List.mem_cons_self
    have := pkv_rg l (fun y hy => h y (List.mem_cons_of_mem _ hy)) (c * 256 + (x - 0)) (n + 1) (by omega) (by
      rw [Nat.pow_succ]
      generalize 256 ^ n = X at *
      omega)
    rw [List.foldl_cons, List.length_cons]
    have e : n + (l.length + 1) = n + 1 + l.length := by omega
    rw [e]; exact this
theorem pkv_small {l : List Int} (h : ∀ x ∈ l, 0 ≤ x ∧ x ≤ 255) {n : Nat} (hl : l.length ≤ n) : 0 ≤ pkv 256 0 l ∧ pkv 256 0 l < ((256 ^ n : Nat) : Int) := by
  have a := pkv_rg l h 0 0 (by decide) (by decide)
  have b : (256 : Nat) ^ (0 + l.length) ≤ 256 ^ n := Nat.pow_le_pow_right (by decide) (by omega)
  unfold pkv
  generalize (256 : Nat) ^ (0 + l.length) = X at *
  generalize (256 : Nat) ^ n = Y at *
  omega
