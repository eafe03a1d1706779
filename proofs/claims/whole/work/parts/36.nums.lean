/-! ===== L2: longs, quotients ===== -/
theorem lI_toInt_self (x : Int64) : lI x.toInt = x := Int64.ofInt_toInt x
theorem lI_add (a b : Int) : lI a + lI b = lI (a + b) := (Int64.ofInt_add a b).symm
theorem lI_sub (a b : Int) : lI a - lI b = lI (a - b) := (Int64.ofInt_sub a b).symm
theorem lI_mul (a b : Int) : lI a * lI b = lI (a * b) := (Int64.ofInt_mul a b).symm
theorem lI_toInt {a : Int} (h : -9223372036854775808 ≤ a ∧ a < 9223372036854775808) : (lI a).toInt = a := Int64.toInt_ofInt_of_le (by omega) (by omega)
theorem lI_lt2 {a b : Int} (h : -9223372036854775808 ≤ a ∧ a < 9223372036854775808 ∧ -9223372036854775808 ≤ b ∧ b < 9223372036854775808) : (lI a < lI b) = (a < b) := propext (by rw [Int64.lt_iff_toInt_lt, lI_toInt ⟨h.1, h.2.1⟩, lI_toInt h.2.2])
theorem lI_le2 {a b : Int} (h : -9223372036854775808 ≤ a ∧ a < 9223372036854775808 ∧ -9223372036854775808 ≤ b ∧ b < 9223372036854775808) : (lI a ≤ lI b) = (a ≤ b) := propext (by rw [Int64.le_iff_toInt_le, lI_toInt ⟨h.1, h.2.1⟩, lI_toInt h.2.2])
theorem lI_eq2 {a b : Int} (h : -9223372036854775808 ≤ a ∧ a < 9223372036854775808 ∧ -9223372036854775808 ≤ b ∧ b < 9223372036854775808) : (lI a = lI b) = (a = b) := propext ⟨fun e => by rw [← lI_toInt ⟨h.1, h.2.1⟩, ← lI_toInt h.2.2, e], fun e => by rw [e]⟩
theorem lI_eq0 {a : Int} (h : -9223372036854775808 ≤ a ∧ a < 9223372036854775808) : (lI a = 0) = (a = 0) := by
  have : (0 : Int64) = lI 0 := by decide
  rw [this, lI_eq2 (by omega)]
theorem i2l_I {a : Int} (h : -2147483648 ≤ a ∧ a < 2147483648) : (iI a).toInt64 = lI a := by
  have h1 := iI_toInt (a := a) h
  have h2 := Int32.toInt_toInt64 (iI a)
  rw [h1] at h2
  rw [← lI_toInt_self (iI a).toInt64, h2]
theorem l2i_I (a : Int) : (lI a).toInt32 = iI a := Int64.toInt32_ofInt
theorem iI_div {a b : Int} (ha : -2147483647 ≤ a ∧ a < 2147483648) (hb : -2147483648 ≤ b ∧ b < 2147483648) : iI a / iI b = iI (a.tdiv b) := by
  have h1 := Int32.toInt_div_of_ne_left (iI a) (iI b) (fun e => by
    have := congrArg Int32.toInt e
    rw [iI_toInt ⟨by omega, by omega⟩] at this
    have h2 : Int32.minValue.toInt = -2147483648 := by decide
    omega)
  rw [iI_toInt ⟨by omega, by omega⟩, iI_toInt hb] at h1
  rw [← iI_toInt_self (iI a / iI b), h1]
theorem lI_div {a b : Int} (ha : -9223372036854775807 ≤ a ∧ a < 9223372036854775808) (hb : -9223372036854775808 ≤ b ∧ b < 9223372036854775808) : lI a / lI b = lI (a.tdiv b) := by
  have h1 := Int64.toInt_div_of_ne_left (lI a) (lI b) (fun e => by
    have := congrArg Int64.toInt e
    rw [lI_toInt ⟨by omega, by omega⟩] at this
    have h2 : Int64.minValue.toInt = -9223372036854775808 := by decide
    omega)
  rw [lI_toInt ⟨by omega, by omega⟩, lI_toInt hb] at h1
  rw [← lI_toInt_self (lI a / lI b), h1]
theorem iI_xor0 {a b : Int} (ha : -2147483648 ≤ a ∧ a < 2147483648) (hb : -2147483648 ≤ b ∧ b < 2147483648) : (iI a ^^^ iI b < 0) = ((a < 0) ≠ (b < 0)) := by
  have hz : ∀ x : Int32, (x < 0) = (x.toBitVec.msb = true) := fun x => by
    rw [Int32.lt_iff_toInt_lt, BitVec.msb_eq_toInt]
    show (x.toBitVec.toInt < 0) = _
    simp
  have h1 := iI_lt0 ha
  have h2 := iI_lt0 hb
  rw [hz] at h1 h2
  rw [hz]
  show (((iI a).toBitVec ^^^ (iI b).toBitVec).msb = true) = _
  rw [BitVec.msb_xor]
  rw [← h1, ← h2]
  cases (iI a).toBitVec.msb <;> cases (iI b).toBitVec.msb <;> simp
/-- the floor of a quotient -/
def flo (a b : Int) : Int := if ¬ a.tdiv b * b = a ∧ (a < 0) ≠ (b < 0) then a.tdiv b - 1 else a.tdiv b
theorem tdiv_abs (a b : Int) : (a.tdiv b).natAbs ≤ a.natAbs := by rw [Int.natAbs_tdiv]; exact Nat.div_le_self _ _
theorem flo_rg {a b : Int} (ha : -1000000 ≤ a ∧ a ≤ 1000000) (hb : b ≠ 0) : -1000000 ≤ flo a b ∧ flo a b ≤ 1000000 := by
  have h1 := tdiv_abs a b
  unfold flo
  split
  · rename_i hc
    have h2 : 2 ≤ b.natAbs := by
      by_cases e : b.natAbs = 1
      · exfalso
        rcases Int.natAbs_eq b with hb1 | hb1 <;> rw [e] at hb1
        · rw [hb1] at hc; simp at hc
        · rw [hb1] at hc; simp at hc
      · omega
    have h3 : (a.tdiv b).natAbs ≤ 500000 := by
      rw [Int.natAbs_tdiv]
      have h4 : a.natAbs ≤ 1000000 := by omega
      exact Nat.le_trans (Nat.div_le_div h4 h2 (by decide)) (by decide)
    omega
  · omega
theorem mod_rg {a b : Int} (ha : -1000000 ≤ a ∧ a ≤ 1000000) (hb0 : b ≠ 0) (hb : -1000000 ≤ b ∧ b ≤ 1000000) : -1000000 ≤ a - b * flo a b ∧ a - b * flo a b ≤ 1000000 := by
  have e : a.tmod b = a - b * a.tdiv b := Int.tmod_def a b
  have h1 : (a.tmod b).natAbs < b.natAbs := by
    rw [Int.natAbs_tmod]; exact Nat.mod_lt _ (by omega)
  unfold flo
  split
  · rename_i hc
    have e2 : a - b * (a.tdiv b - 1) = a.tmod b + b := by rw [e, Int.mul_sub, Int.mul_one]; omega
    rw [e2]
    have h3 : 0 ≤ a → 0 ≤ a.tmod b := fun z => Int.tmod_nonneg _ z
    have h4 : a ≤ 0 → a.tmod b ≤ 0 := fun z => by
      have := Int.tmod_nonneg b (show 0 ≤ -a by omega)
      rw [Int.neg_tmod] at this
      omega
    by_cases h5 : a < 0 <;> by_cases h6 : b < 0 <;> simp [h5, h6] at hc <;> omega
  · rw [← e]
    omega
