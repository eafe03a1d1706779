/-! ===== L2: the meanings alone; values as integers ===== -/
theorem hT_sR (h : AH) (q : Nat) (v : List Int32) : hT (sR h q v) = hT h := rfl
theorem hP_sR (h : AH) (q : Nat) (v : List Int32) : hP (sR h q v) = hP h := rfl
theorem hI_sR (h : AH) (q : Nat) (v : List Int32) : hI (sR h q v) = hI h := rfl
theorem hL_sR (h : AH) (q : Nat) (v : List Int32) : hL (sR h q v) = hL h := rfl
theorem hN_sR (h : AH) (q : Nat) (v : List Int32) : hN (sR h q v) = hN h := rfl
theorem hR_sRu (h : AH) (q : Nat) (v : List Int32) : hR (sR h q v) = u1 (hR h) q v := rfl
theorem hT_sI (h : AH) (q k : Nat) (v : Int32) : hT (sI h q k v) = hT h := rfl
theorem hP_sI (h : AH) (q k : Nat) (v : Int32) : hP (sI h q k v) = hP h := rfl
theorem hR_sI (h : AH) (q k : Nat) (v : Int32) : hR (sI h q k v) = hR h := rfl
theorem hL_sI (h : AH) (q k : Nat) (v : Int32) : hL (sI h q k v) = hL h := rfl
theorem hN_sI (h : AH) (q k : Nat) (v : Int32) : hN (sI h q k v) = hN h := rfl
theorem hT_sL (h : AH) (q k : Nat) (v : Int64) : hT (sL h q k v) = hT h := rfl
theorem hP_sL (h : AH) (q k : Nat) (v : Int64) : hP (sL h q k v) = hP h := rfl
theorem hR_sL (h : AH) (q k : Nat) (v : Int64) : hR (sL h q k v) = hR h := rfl
theorem hI_sL (h : AH) (q k : Nat) (v : Int64) : hI (sL h q k v) = hI h := rfl
theorem hN_sL (h : AH) (q k : Nat) (v : Int64) : hN (sL h q k v) = hN h := rfl
theorem hL_sL (h : AH) (q k : Nat) (v : Int64) : hL (sL h q k v) = u2 (hL h) q k v := rfl
theorem hT_sP (h : AH) (q k : Nat) (v : Option Nat) : hT (sP h q k v) = hT h := rfl
theorem hR_sP (h : AH) (q k : Nat) (v : Option Nat) : hR (sP h q k v) = hR h := rfl
theorem hI_sP (h : AH) (q k : Nat) (v : Option Nat) : hI (sP h q k v) = hI h := rfl
theorem hL_sP (h : AH) (q k : Nat) (v : Option Nat) : hL (sP h q k v) = hL h := rfl
theorem hN_sP (h : AH) (q k : Nat) (v : Option Nat) : hN (sP h q k v) = hN h := rfl
theorem hP_sP (h : AH) (q k : Nat) (v : Option Nat) : hP (sP h q k v) = u2 (hP h) q k v := rfl
/-! numbers -/
def rg (a : Int) : Prop := -2147483648 ≤ a ∧ a < 2147483648
theorem iI_add (a b : Int) : iI a + iI b = iI (a + b) := (Int32.ofInt_add a b).symm
theorem iI_sub (a b : Int) : iI a - iI b = iI (a - b) := (Int32.ofInt_sub a b).symm
theorem iI_mul (a b : Int) : iI a * iI b = iI (a * b) := (Int32.ofInt_mul a b).symm
theorem iI_toInt {a : Int} (h : rg a) : (iI a).toInt = a := Int32.toInt_ofInt_of_le h.1 h.2
theorem iI_inj {a b : Int} (ha : rg a) (hb : rg b) : iI a = iI b ↔ a = b := ⟨fun e => by rw [← iI_toInt ha, ← iI_toInt hb, e], fun e => by rw [e]⟩
theorem iI_lt {a b : Int} (ha : rg a) (hb : rg b) : iI a < iI b ↔ a < b := by rw [Int32.lt_iff_toInt_lt, iI_toInt ha, iI_toInt hb]
theorem iI_le {a b : Int} (ha : rg a) (hb : rg b) : iI a ≤ iI b ↔ a ≤ b := by rw [Int32.le_iff_toInt_le, iI_toInt ha, iI_toInt hb]
theorem iI_zero : (0 : Int32) = iI 0 := by decide
theorem iI_one : (1 : Int32) = iI 1 := by decide
theorem iI_lt2 {a b : Int} (h : -2147483648 ≤ a ∧ a < 2147483648 ∧ -2147483648 ≤ b ∧ b < 2147483648) : (iI a < iI b) = (a < b) := propext (iI_lt ⟨h.1, h.2.1⟩ h.2.2)
theorem iI_le2 {a b : Int} (h : -2147483648 ≤ a ∧ a < 2147483648 ∧ -2147483648 ≤ b ∧ b < 2147483648) : (iI a ≤ iI b) = (a ≤ b) := propext (iI_le ⟨h.1, h.2.1⟩ h.2.2)
theorem iI_eq2 {a b : Int} (h : -2147483648 ≤ a ∧ a < 2147483648 ∧ -2147483648 ≤ b ∧ b < 2147483648) : (iI a = iI b) = (a = b) := propext (iI_inj ⟨h.1, h.2.1⟩ h.2.2)
theorem iI_lt0 {a : Int} (h : -2147483648 ≤ a ∧ a < 2147483648) : (iI a < 0) = (a < 0) := by rw [iI_zero]; exact propext (iI_lt h ⟨by omega, by omega⟩)
theorem iI_0lt {a : Int} (h : -2147483648 ≤ a ∧ a < 2147483648) : (0 < iI a) = (0 < a) := by rw [iI_zero]; exact propext (iI_lt ⟨by omega, by omega⟩ h)
theorem iI_le0 {a : Int} (h : -2147483648 ≤ a ∧ a < 2147483648) : (iI a ≤ 0) = (a ≤ 0) := by rw [iI_zero]; exact propext (iI_le h ⟨by omega, by omega⟩)
theorem iI_0le {a : Int} (h : -2147483648 ≤ a ∧ a < 2147483648) : (0 ≤ iI a) = (0 ≤ a) := by rw [iI_zero]; exact propext (iI_le ⟨by omega, by omega⟩ h)
theorem iI_eq0 {a : Int} (h : -2147483648 ≤ a ∧ a < 2147483648) : (iI a = 0) = (a = 0) := by rw [iI_zero]; exact propext (iI_inj h ⟨by omega, by omega⟩)
theorem iI_eq1 {a : Int} (h : -2147483648 ≤ a ∧ a < 2147483648) : (iI a = 1) = (a = 1) := by rw [iI_one]; exact propext (iI_inj h ⟨by omega, by omega⟩)
theorem zu0 : List.replicate 0 Slot.unset = [] := rfl
theorem zu1 : List.replicate 1 Slot.unset = [.unset] := rfl
theorem zu2 : List.replicate 2 Slot.unset = [.unset, .unset] := rfl
theorem zu3 : List.replicate 3 Slot.unset = [.unset, .unset, .unset] := rfl
theorem zu4 : List.replicate 4 Slot.unset = [.unset, .unset, .unset, .unset] := rfl
theorem zu5 : List.replicate 5 Slot.unset = [.unset, .unset, .unset, .unset, .unset] := rfl
theorem zu6 : List.replicate 6 Slot.unset = [.unset, .unset, .unset, .unset, .unset, .unset] := rfl
theorem vc_i (x : Int32) : (Value.int x).category = 1 := rfl
theorem vc_r (x : Nat) : (Value.ref x).category = 1 := rfl
theorem vc_l (x : Int64) : (Value.long x).category = 2 := rfl
theorem nI_iI (n : Nat) : nI n = iI (n : Int) := by unfold nI iI; exact (Int32.ofInt_eq_ofNat).symm
theorem iI_nat {a : Int} (h0 : 0 ≤ a) (h : a < 2147483648) : (iI a).toNatClampNeg = a.toNat := by
  unfold Int32.toNatClampNeg
  rw [iI_toInt ⟨by omega, h⟩]
theorem iI_nat2 {a : Int} (h : 0 ≤ a ∧ a < 2147483648) : (iI a).toNatClampNeg = a.toNat := iI_nat h.1 h.2
theorem iI_self (x : Int32) : ∃ a, x = iI a ∧ rg a := ⟨x.toInt, (iI_toInt_self x).symm, Int32.le_toInt x, Int32.toInt_lt x⟩
/-! rows of integers -/
def mI (l : List Int) : List Int32 := l.map iI
def gt (l : List Int) (k : Int) : Int := if 0 ≤ k then l.getD k.toNat (-1) else -1
def pt (l : List Int) (k v : Int) : List Int := if 0 ≤ k then l.set k.toNat v else l
theorem mI_length (l : List Int) : (mI l).length = l.length := by simp [mI]
theorem mI_self (l : List Int32) : ∃ a, l = mI a ∧ ∀ x ∈ a, rg x := ⟨l.map Int32.toInt, by unfold mI; rw [List.map_map]; exact (List.map_id'' (fun x => iI_toInt_self x) l).symm, fun x hx => by
  obtain ⟨y, -, rfl⟩ := List.mem_map.mp hx
  exact ⟨Int32.le_toInt y, Int32.toInt_lt y⟩⟩
theorem rowAt_mI {l : List Int} {k : Int} (hk : rg k) (hl : l.length < 2147483648) : rowAt (mI l) (iI k) = iI (gt l k) := by
  unfold rowAt gt
  rw [mI_length]
  by_cases h0 : 0 ≤ k
  · rw [iI_nat h0 hk.2, if_pos h0]
    have : ¬ iI k < 0 := by rw [iI_zero, iI_lt hk ⟨by omega, by omega⟩]; omega
    by_cases h1 : k.toNat < l.length
    · rw [if_pos ⟨this, h1⟩]
      unfold mI
      rw [List.getD_eq_getElem?_getD, List.getD_eq_getElem?_getD, List.getElem?_map, List.getElem?_eq_getElem h1]
      rfl
    · rw [if_neg (fun z => h1 z.2), List.getD_eq_getElem?_getD, List.getElem?_eq_none (by omega)]
      decide
  · have : iI k < 0 := by rw [iI_zero, iI_lt hk ⟨by omega, by omega⟩]; omega
    rw [if_neg (fun z => z.1 this), if_neg h0]
    decide
theorem rowPut_mI {l : List Int} {k v : Int} (hk : rg k) (hl : l.length < 2147483648) : rowPut (mI l) (iI k) (iI v) = mI (pt l k v) := by
  unfold rowPut pt
  rw [mI_length]
  by_cases h0 : 0 ≤ k
  · rw [iI_nat h0 hk.2, if_pos h0]
    have : ¬ iI k < 0 := by rw [iI_zero, iI_lt hk ⟨by omega, by omega⟩]; omega
    by_cases h1 : k.toNat < l.length
    · rw [if_pos ⟨this, h1⟩]
      unfold mI
      rw [List.map_set]
    · rw [if_neg (fun z => h1 z.2), List.set_eq_of_length_le (by omega)]
  · have : iI k < 0 := by rw [iI_zero, iI_lt hk ⟨by omega, by omega⟩]; omega
    rw [if_neg (fun z => z.1 this), if_neg h0]
theorem gt_len {l : List Int} {k : Int} (h : (l.length : Int) ≤ k) : gt l k = -1 := by
  unfold gt
  split
  · rw [List.getD_eq_getElem?_getD, List.getElem?_eq_none (by omega)]; rfl
  · rfl
theorem gt_neg {l : List Int} {k : Int} (h : k < 0) : gt l k = -1 := by
  unfold gt
  rw [if_neg (by omega)]
theorem mI_take (l : List Int) (n : Nat) : (mI l).take n = mI (l.take n) := by unfold mI; rw [List.map_take]
theorem mI_app (l : List Int) (v : Int) : mI l ++ [iI v] = mI (l ++ [v]) := by unfold mI; rw [List.map_append]; rfl
theorem mI_nil : mI [] = [] := rfl
/-! loops -/
theorem whl_up {c : Ex Bool} {b : St} (N : Nat) (E : Nat → List Slot) (H : Nat → AH) (hc : ∀ i, i ≤ N → c (E i) (H i) = some (decide (i < N), H i)) (hb : ∀ i, i < N → ∃ r, (r = .inl 0 ∨ r = .inl 2) ∧ b (E i) (H i) = some (r, E (i + 1), H (i + 1))) : ∀ n i, i ≤ N → N - i < n → whl c b n (E i) (H i) = some (.inl 0, E N, H N) := by
  intro n
  induction n with
  | zero => intro i _ h; omega
  | succ n ih =>
    intro i hi hn
    show ((c (E i) (H i)).bind _) = _
    rw [hc i hi, Option.bind_some]
    by_cases h : i < N
    · obtain ⟨r, hr, e⟩ := hb i h
      rw [decide_eq_true h, if_pos rfl, e, Option.bind_some, if_pos hr]
      exact ih (i + 1) (by omega) (by omega)
    · rw [decide_eq_false h, if_neg (by simp)]
      have : i = N := by omega
      rw [this]
theorem for_up {c : Ex Bool} {b : St} (N : Nat) (E : Nat → List Slot) (H : Nat → AH) (hN : N < 100000) (hc : ∀ i, i ≤ N → c (E i) (H i) = some (decide (i < N), H i)) (hb : ∀ i, i < N → ∃ r, (r = .inl 0 ∨ r = .inl 2) ∧ b (E i) (H i) = some (r, E (i + 1), H (i + 1))) : whileS c b (E 0) (H 0) = some (.inl 0, E N, H N) := whl_up N E H hc hb 100000 0 (by omega) (by omega)
/-- a loop that leaves by a return at the turn K -/
theorem whl_ret {c : Ex Bool} {b : St} (K : Nat) (E : Nat → List Slot) (H : Nat → AH) {v : Option Value} {env' : List Slot} {h' : AH} (hc : ∀ i, i ≤ K → c (E i) (H i) = some (true, H i)) (hb : ∀ i, i < K → ∃ r, (r = .inl 0 ∨ r = .inl 2) ∧ b (E i) (H i) = some (r, E (i + 1), H (i + 1))) (hk : b (E K) (H K) = some (.inr v, env', h')) : ∀ n i, i ≤ K → K - i < n → whl c b n (E i) (H i) = some (.inr v, env', h') := by
  intro n
  induction n with
  | zero => intro i _ h; omega
  | succ n ih =>
    intro i hi hn
    show ((c (E i) (H i)).bind _) = _
    rw [hc i hi, Option.bind_some, if_pos rfl]
    by_cases h : i < K
    · obtain ⟨r, hr, e⟩ := hb i h
      rw [e, Option.bind_some, if_pos hr]
      exact ih (i + 1) (by omega) (by omega)
    · have : i = K := by omega
      rw [this, hk]
      rfl
theorem for_ret {c : Ex Bool} {b : St} (K : Nat) (E : Nat → List Slot) (H : Nat → AH) {v : Option Value} {env' : List Slot} {h' : AH} (hK : K < 100000) (hc : ∀ i, i ≤ K → c (E i) (H i) = some (true, H i)) (hb : ∀ i, i < K → ∃ r, (r = .inl 0 ∨ r = .inl 2) ∧ b (E i) (H i) = some (r, E (i + 1), H (i + 1))) (hk : b (E K) (H K) = some (.inr v, env', h')) : whileS c b (E 0) (H 0) = some (.inr v, env', h') := whl_ret K E H hc hb hk 100000 0 (by omega) (by omega)
