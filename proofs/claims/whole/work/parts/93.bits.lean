/-! ===== L2: windows as bits; pieces are no longer than most ===== -/
def wB (f : Nat → Bool) : Nat → Int32
  | 0 => iI 0
  | n + 1 => wB f n ||| (if f (n + 1) = true then iI 1 <<< (iI ((n + 1 : Nat) : Int) &&& 31) else iI 0)
theorem sh1 : ∀ w, w < 17 → (iI 1 <<< (iI ((w : Nat) : Int) &&& 31)).toBitVec = BitVec.twoPow 32 w := by decide
theorem wB_bit (f : Nat → Bool) (i : Nat) : ∀ n, n ≤ 16 → (wB f n).toBitVec.getLsbD i = (decide (1 ≤ i ∧ i ≤ n) && f i)
  | 0, _ => by
    have e : (wB f 0).toBitVec = 0#32 := rfl
    rw [e, decide_eq_false (by omega), Bool.false_and]
    simp
  | n + 1, hn => by
    have ih := wB_bit f i n (by omega)
    have e : (wB f (n + 1)).toBitVec = (wB f n).toBitVec ||| (if f (n + 1) = true then iI 1 <<< (iI ((n + 1 : Nat) : Int) &&& 31) else iI 0).toBitVec := rfl
    rw [e, BitVec.getLsbD_or, ih]
    by_cases hf : f (n + 1) = true
    · rw [if_pos hf, sh1 (n + 1) (by omega), BitVec.getLsbD_twoPow, decide_eq_true (show n + 1 < 32 by omega), Bool.true_and]
      by_cases z : n + 1 = i
      · subst z
        rw [decide_eq_false (by omega), decide_eq_true (show 1 ≤ n + 1 ∧ n + 1 ≤ n + 1 by omega), hf]
        simp
      · have z2 : (1 ≤ i ∧ i ≤ n + 1) = (1 ≤ i ∧ i ≤ n) := by apply propext; omega
        rw [decide_eq_false z, Bool.or_false]
        simp only [z2]
    · have z0 : (iI 0).toBitVec = 0#32 := rfl
      rw [if_neg hf, z0]
      have z3 : (0#32).getLsbD i = false := by simp
      rw [z3, Bool.or_false]
      by_cases z : n + 1 = i
      · subst z
        have hf' : f (n + 1) = false := by simpa using hf
        rw [hf', Bool.and_false, Bool.and_false]
      · have z2 : (1 ≤ i ∧ i ≤ n + 1) = (1 ≤ i ∧ i ≤ n) := by apply propext; omega
        simp only [z2]
theorem tp_ne : ∀ w, w < 17 → ¬ BitVec.twoPow 32 w = 0#32 := by decide
theorem wB_and (f : Nat → Bool) (w : Nat) (hw : 1 ≤ w ∧ w ≤ 16) : (wB f 16 &&& iI 1 <<< (iI ((w : Nat) : Int) &&& 31) = 0) = (f w = false) := by
  have h1 := wB_bit f w 16 (by omega)
  rw [decide_eq_true (by omega), Bool.true_and] at h1
  apply propext
  rw [← Int32.toBitVec_inj, Int32.toBitVec_and, sh1 w (by omega), BitVec.and_twoPow, h1]
  have z0 : (0 : Int32).toBitVec = 0#32 := rfl
  rw [z0]
  cases f w with
  | true =>
    rw [if_pos rfl]
    exact ⟨fun z => absurd z (tp_ne w (by omega)), fun z => absurd z (by decide)⟩
  | false => rw [if_neg (by decide)]; exact ⟨fun _ => rfl, fun _ => rfl⟩
theorem wB_zero (f : Nat → Bool) : (wB f 16 = 0) = (∀ w, 1 ≤ w → w ≤ 16 → f w = false) := by
  apply propext
  constructor
  · intro z w h1 h2
    have h := wB_bit f w 16 (by omega)
    rw [z, decide_eq_true (by omega), Bool.true_and] at h
    rw [← h]
    have z0 : (0 : Int32).toBitVec = 0#32 := rfl
    rw [z0]
    simp
  · intro z
    apply Int32.toBitVec_inj.mp
    apply BitVec.eq_of_getLsbD_eq
    intro i hi
    rw [wB_bit f i 16 (by omega)]
    have z0 : (0 : Int32).toBitVec = 0#32 := rfl
    rw [z0]
    by_cases h : 1 ≤ i ∧ i ≤ 16
    · rw [z i h.1 h.2, Bool.and_false]; simp
    · rw [decide_eq_false h, Bool.false_and]; simp
theorem sh2 : ∀ w, w < 17 → (iI ((w : Nat) : Int) &&& 31).toBitVec.smod 32#32 = BitVec.ofNat 32 w := by decide
theorem wB_shr (f : Nat → Bool) (w : Nat) (hw : 1 ≤ w ∧ w ≤ 16) : (wB f 16 >>> (iI ((w : Nat) : Int) &&& 31)).toBitVec.getLsbD 0 = f w := by
  have h1 := wB_bit f w 16 (by omega)
  rw [decide_eq_true (by omega), Bool.true_and] at h1
  have e : (wB f 16 >>> (iI ((w : Nat) : Int) &&& 31)).toBitVec = (wB f 16).toBitVec.sshiftRight' ((iI ((w : Nat) : Int) &&& 31).toBitVec.smod 32#32) := rfl
  rw [e, sh2 w (by omega), BitVec.sshiftRight', BitVec.getLsbD_sshiftRight]
  have e2 : (BitVec.ofNat 32 w).toNat = w := by rw [BitVec.toNat_ofNat]; omega
  rw [e2, ← h1]
  have e3 : ¬ 32 ≤ 0 := by decide
  have e4 : w + 0 < 32 := by omega
  simp [e4]
  intro z; omega
theorem wB_two (f : Nat → Bool) (w o : Nat) (hw : 1 ≤ w ∧ w ≤ 16) (ho : 1 ≤ o ∧ o ≤ 16) : ((wB f 16 >>> (iI ((w : Nat) : Int) &&& 31)) &&& (wB f 16 >>> (iI ((o : Nat) : Int) &&& 31)) &&& iI 1 = iI 1) = (f w = true ∧ f o = true) := by
  have a := wB_shr f w hw
  have b := wB_shr f o ho
  apply propext
  rw [← Int32.toBitVec_inj, Int32.toBitVec_and, Int32.toBitVec_and]
  have z0 : (iI 1).toBitVec = BitVec.twoPow 32 0 := by decide
  rw [z0, BitVec.and_twoPow, BitVec.getLsbD_and, a, b]
  cases f w <;> cases f o <;> decide
/-- how long the k-th piece is; 0 -/
def lnE (E : List Int) (k : Nat) : Int := if k < E.length then eLen E k else 0
theorem cutS_most (bf : Nat → Int → Int) (least most : Int) (hm : 1 ≤ most) (n : Nat) : ∀ i, (cutS bf least most n i).2 < most ∧ ∀ k, k < (cutS bf least most n i).1.length → eLen (cutS bf least most n i).1 k ≤ most
  | 0 => ⟨by show (0 : Int) < most; omega, fun k hk => (Nat.not_lt_zero _ hk).elim⟩
  | i + 1 => by
    obtain ⟨h1, h2⟩ := cutS_most bf least most hm n i
    obtain ⟨r1, r2, r3, r4⟩ := cutS_rg bf least most n i
    unfold cutS
    split
    · refine ⟨by show (0 : Int) < most; omega, fun k hk => ?_⟩
      generalize cutS bf least most n i = s at *
      have hk' : k < s.1.length + 1 := by
        have : k < (s.1 ++ [((i + 1 : Nat) : Int)]).length := hk
        rw [List.length_append] at this
        exact this
      show eLen (s.1 ++ [((i + 1 : Nat) : Int)]) k ≤ most
      by_cases z : k = s.1.length
      · subst z
        have e1 : (s.1 ++ [((i + 1 : Nat) : Int)]).getD s.1.length 0 = ((i + 1 : Nat) : Int) := by
          rw [List.getD_eq_getElem?_getD, List.getElem?_append_right (Nat.le_refl _), Nat.sub_self]; rfl
        have e2 : (0 :: (s.1 ++ [((i + 1 : Nat) : Int)])).getD s.1.length 0 = s.1.getLastD 0 := by
          rw [← last_at]
          have : (0 :: (s.1 ++ [((i + 1 : Nat) : Int)])) = (0 :: s.1) ++ [((i + 1 : Nat) : Int)] := rfl
          rw [this, List.getD_eq_getElem?_getD, List.getElem?_append_left (by rw [List.length_cons]; omega), List.getD_eq_getElem?_getD]
        unfold eLen
        rw [e1, e2]
        omega
      · have h3 := h2 k (by omega)
        have e1 : (s.1 ++ [((i + 1 : Nat) : Int)]).getD k 0 = s.1.getD k 0 := by
          rw [List.getD_eq_getElem?_getD, List.getElem?_append_left (by omega), List.getD_eq_getElem?_getD]
        have e2 : (0 :: (s.1 ++ [((i + 1 : Nat) : Int)])).getD k 0 = (0 :: s.1).getD k 0 := by
          have : (0 :: (s.1 ++ [((i + 1 : Nat) : Int)])) = (0 :: s.1) ++ [((i + 1 : Nat) : Int)] := rfl
          rw [this, List.getD_eq_getElem?_getD, List.getElem?_append_left (by rw [List.length_cons]; omega), List.getD_eq_getElem?_getD]
        unfold eLen at h3 ⊢
        rw [e1, e2]
        exact h3
    · rename_i hc
      refine ⟨?_, h2⟩
      show (cutS bf least most n i).2 + 1 < most
      omega
theorem cutF_most (nu : List Int) (ts : Nat → List (Int × Int)) (day : Int) (F : List Int) (w : Nat) (hm : 1 ≤ nu.getD 4 0) (k : Nat) (hk : k < (cutF nu ts day F w F.length).1.length) : eLen (cutF nu ts day F w F.length).1 k ≤ nu.getD 4 0 := (cutS_most _ _ _ hm _ _).2 k hk
