/-! ===== the reference's constructor (by mkfi.py) ===== -/
abbrev OpC : Type := Nat × Nat × Nat × Int
def opT0 (o : OpC) : St := match o.1 with
  | 0 => putI 12 o.2.1 (lvR 0) (ciI (iI o.2.2.2))
  | 1 => putZ 12 o.2.1 (lvR 0) (ciI (iI o.2.2.2))
  | 2 => putL 12 o.2.1 (lvR 0) (clL (lI o.2.2.2))
  | _ => putR 12 o.2.1 (lvR 0) (newA o.2.2.1 (ciI (iI o.2.2.2)))
def sqO : List OpC → St → St
  | [], r => r
  | o :: os, r => seqS (opT0 o) (sqO os r)
def ops12 : List OpC := [(3, 0, 2, 1800), (0, 1, 0, 0), (0, 2, 0, 0), (0, 3, 0, 0), (0, 4, 0, 0), (0, 5, 0, 0), (0, 6, 0, 0), (2, 7, 0, 0), (0, 8, 0, 0), (0, 9, 0, -1), (0, 10, 0, 0), (0, 11, 0, -1), (0, 12, 0, -1), (0, 13, 0, 0), (3, 14, 2, 20), (3, 15, 2, 6), (3, 16, 2, 6), (3, 17, 2, 3200), (3, 18, 2, 3200), (0, 19, 0, 0), (0, 20, 0, 1), (0, 21, 0, 0), (3, 22, 2, 20), (3, 23, 2, 20), (3, 24, 4, 20), (3, 25, 2, 20), (3, 26, 2, 20), (0, 27, 0, 0), (0, 28, 0, 0), (3, 29, 2, 500), (0, 30, 0, 0), (1, 31, 0, 0), (1, 32, 0, 0), (3, 33, 2, 6), (3, 34, 2, 42000), (3, 35, 2, 60000), (3, 36, 2, 60000), (0, 37, 0, 0), (3, 38, 2, 21), (0, 39, 0, 0), (2, 40, 0, 1), (3, 41, 2, 10300), (3, 42, 2, 10300), (3, 43, 2, 10300), (3, 44, 2, 10700), (3, 45, 2, 10300), (3, 46, 2, 10300), (3, 47, 2, 10300), (3, 48, 3, 500), (3, 49, 2, 12), (3, 50, 2, 400), (0, 51, 0, 0), (3, 52, 2, 401), (0, 53, 0, 0), (3, 54, 2, 10300), (3, 55, 2, 8), (3, 56, 2, 8), (3, 57, 2, 8), (3, 58, 2, 4), (0, 59, 0, 0), (3, 60, 2, 6), (3, 61, 2, 6), (3, 62, 2, 310), (3, 63, 2, 310), (3, 64, 2, 310), (0, 65, 0, 0), (3, 66, 2, 16), (3, 67, 2, 16), (3, 68, 2, 680)]
def rest12 : St := (seqS (scS 1 (seqS (lsI 1 (ciI (iI 0))) (whileS lcX12_init_1 lbX12_init_1))) (seqS (calS (ckV 12 0) mX12_resets (agC va_rf (lvR 0) agN)) retV))
set_option maxRecDepth 100000 in
theorem b12_is : bX12_init = seqS (oiS (lvR 0)) (sqO ops12 rest12) := rfl
def opH (o : OpC) (h : AH) : AH := match o.1 with
  | 0 => sI h 95 o.2.1 (iI o.2.2.2)
  | 1 => sI h 95 o.2.1 (iI o.2.2.2)
  | 2 => sL h 95 o.2.1 (lI o.2.2.2)
  | _ => sP (hNew h (o.2.2.1, o.2.2.2.toNat)) 95 o.2.1 (some (hN h))
def runO : List OpC → AH → AH
  | [], h => h
  | o :: os, h => runO os (opH o h)
def okO (o : OpC) : Prop := (o.1 = 1 → o.2.2.2 = 0 ∨ o.2.2.2 = 1) ∧ (3 ≤ o.1 → 0 ≤ o.2.2.2 ∧ o.2.2.2 ≤ 65536)
theorem ops12_ok : ∀ o ∈ ops12, okO o := by
  unfold okO
  decide +kernel
theorem op_run (o : OpC) (ok : okO o) {h : AH} (h0 : hT h 95 = (0, 12)) (hn : 95 < hN h) : opT0 o [.val (.ref 95), .unset] h = some (.inl 0, [.val (.ref 95), .unset], opH o h) ∧ hT (opH o h) 95 = (0, 12) ∧ 95 < hN (opH o h) := by
  obtain ⟨tag, k, kd, v⟩ := o
  unfold opT0 opH
  match tag, ok with
  | 0, ok =>
    refine ⟨?_, h0, hn⟩
    show (if hT h 95 = (0, 12) then _ else _) = _
    rw [if_pos h0]
    rfl
  | 1, ok =>
    refine ⟨?_, h0, hn⟩
    have e : iI v = 0 ∨ iI v = 1 := by
      rcases ok.1 rfl with e | e
      · exact Or.inl (by show iI v = 0; rw [show v = 0 from e]; decide)
      · exact Or.inr (by show iI v = 1; rw [show v = 1 from e]; decide)
    show (if hT h 95 = (0, 12) ∧ (iI v = 0 ∨ iI v = 1) then _ else _) = _
    rw [if_pos ⟨h0, e⟩]
    rfl
  | 2, ok =>
    refine ⟨?_, h0, hn⟩
    show (if hT h 95 = (0, 12) then _ else _) = _
    rw [if_pos h0]
    rfl
  | t + 3, ok =>
    have hv : 0 ≤ v ∧ v ≤ 65536 := ok.2 (by show 3 ≤ t + 3; omega)
    have ht : hT (hNew h (kd, v.toNat)) 95 = (0, 12) := by
      rw [hT_new_ne (by omega)]
      exact h0
    refine ⟨?_, ht, by show 95 < hN h + 1; omega⟩
    have en : (iI v).toNatClampNeg = v.toNat := iI_nat2 ⟨hv.1, by omega⟩
    have e0 : ¬ iI v < 0 := by rw [iI_lt0 ⟨by omega, by omega⟩]; omega
    have e1 : newA kd (ciI (iI v)) [.val (.ref 95), .unset] h = some (some (hN h), hNew h (kd, v.toNat)) := by
      show (if ¬ iI v < 0 ∧ (iI v).toNatClampNeg ≤ 65536 then some (some (hN h), hNew h (kd, (iI v).toNatClampNeg)) else none) = _
      rw [en, if_pos ⟨e0, by omega⟩]
    show putR 12 k (lvR 0) (newA kd (ciI (iI v))) [.val (.ref 95), .unset] h = _
    unfold putR
    show ((newA kd (ciI (iI v)) [.val (.ref 95), .unset] h).bind _) = _
    rw [e1]
    show (if hT (hNew h (kd, v.toNat)) 95 = (0, 12) then _ else _) = _
    rw [if_pos ht]
    rfl
theorem sq_run (rest : St) : ∀ (os : List OpC), (∀ o ∈ os, okO o) → ∀ h : AH, hT h 95 = (0, 12) → 95 < hN h → sqO os rest [.val (.ref 95), .unset] h = rest [.val (.ref 95), .unset] (runO os h)
  | [], _, _, _, _ => rfl
  | o :: os, ok, h, h0, hn => by
    obtain ⟨e1, e2, e3⟩ := op_run o (ok o List.mem_cons_self) h0 hn
    have := sq_run rest os (fun x hx => ok x (List.mem_cons_of_mem _ hx)) (opH o h) e2 e3
    show (opT0 o [.val (.ref 95), .unset] h).bind _ = _
    rw [e1]
    show (if (Sum.inl 0 : Nat ⊕ Option Value) = .inl 0 then sqO os rest [.val (.ref 95), .unset] (opH o h) else some (Sum.inl 0, [.val (.ref 95), .unset], opH o h)) = _
    rw [if_pos rfl]
    exact this
/-! what the steps leave -/
def tysO : List OpC → List (Nat × Nat)
  | [] => []
  | o :: os => match o.1 with
    | 0 => tysO os
    | 1 => tysO os
    | 2 => tysO os
    | _ => (o.2.2.1, o.2.2.2.toNat) :: tysO os
def ptrO : Nat → List OpC → (Nat → Option Nat) → Nat → Option Nat
  | _, [], f => f
  | N, o :: os, f => match o.1 with
    | 0 => ptrO N os f
    | 1 => ptrO N os f
    | 2 => ptrO N os f
    | _ => ptrO (N + 1) os (u1 f o.2.1 (some N))
def intO : List OpC → (Nat → Int32) → Nat → Int32
  | [], f => f
  | o :: os, f => match o.1 with
    | 0 => intO os (u1 f o.2.1 (iI o.2.2.2))
    | 1 => intO os (u1 f o.2.1 (iI o.2.2.2))
    | _ => intO os f
def lngO : List OpC → (Nat → Int64) → Nat → Int64
  | [], f => f
  | o :: os, f => match o.1 with
    | 0 => lngO os f
    | 1 => lngO os f
    | 2 => lngO os (u1 f o.2.1 (lI o.2.2.2))
    | _ => lngO os f
theorem u2_row {α : Type} (f : Nat → Nat → α) (q k : Nat) (v : α) : u2 f q k v q = u1 (f q) k v := by
  funext j
  rw [u2_app]
  show _ = if j = k then v else f q j
  by_cases z : j = k
  · rw [if_pos ⟨rfl, z⟩, if_pos z]
  · rw [if_neg (fun y => z y.2), if_neg z]
theorem new_old {h : AH} {t : Nat × Nat} {q : Nat} (hq : q < hN h) : hT (hNew h t) q = hT h q ∧ hP (hNew h t) q = hP h q ∧ hI (hNew h t) q = hI h q ∧ hL (hNew h t) q = hL h q ∧ hR (hNew h t) q = hR h q := by
  have hne : q ≠ hN h := by omega
  exact ⟨u1_ne hne, u1_ne hne, u1_ne hne, u1_ne hne, u1_ne hne⟩
theorem run_len : ∀ (os : List OpC) (h : AH), hN (runO os h) = hN h + (tysO os).length
  | [], h => rfl
  | (tag, k, kd, v) :: os, h => by
    match tag with
    | 0 => exact run_len os _
    | 1 => exact run_len os _
    | 2 => exact run_len os _
    | t + 3 =>
      have := run_len os (opH (t + 3, k, kd, v) h)
      show hN (runO os (opH (t + 3, k, kd, v) h)) = hN h + ((tysO os).length + 1)
      rw [this]
      show hN h + 1 + _ = _
      omega
/-- old cells, but the object itself, are as they were -/
theorem run_old : ∀ (os : List OpC) (h : AH) (q : Nat), q < hN h → q ≠ 95 → hT (runO os h) q = hT h q ∧ hP (runO os h) q = hP h q ∧ hI (runO os h) q = hI h q ∧ hL (runO os h) q = hL h q ∧ hR (runO os h) q = hR h q
  | [], h, q, _, _ => ⟨rfl, rfl, rfl, rfl, rfl⟩
  | (tag, k, kd, v) :: os, h, q, hq, h95 => by
    match tag with
    | 0 =>
      obtain ⟨a, b, c, d, e⟩ := run_old os (sI h 95 k (iI v)) q hq h95
      exact ⟨a, b, c.trans (by rw [hI_sI, u2_ne h95]), d, e⟩
    | 1 =>
      obtain ⟨a, b, c, d, e⟩ := run_old os (sI h 95 k (iI v)) q hq h95
      exact ⟨a, b, c.trans (by rw [hI_sI, u2_ne h95]), d, e⟩
    | 2 =>
      obtain ⟨a, b, c, d, e⟩ := run_old os (sL h 95 k (lI v)) q hq h95
      exact ⟨a, b, c, d.trans (by rw [hL_sL, u2_ne h95]), e⟩
    | t + 3 =>
      obtain ⟨a, b, c, d, e⟩ := run_old os (sP (hNew h (kd, v.toNat)) 95 k (some (hN h))) q (by show q < hN h + 1; omega) h95
      obtain ⟨a', b', c', d', e'⟩ := new_old (t := (kd, v.toNat)) hq
      exact ⟨a.trans a', b.trans (by rw [hP_sP, u2_ne h95]; exact b'), c.trans c', d.trans d', e.trans e'⟩
/-- the object's own fields -/
theorem run_own : ∀ (os : List OpC) (h : AH), 95 < hN h → hT (runO os h) 95 = hT h 95 ∧ hP (runO os h) 95 = ptrO (hN h) os (hP h 95) ∧ hI (runO os h) 95 = intO os (hI h 95) ∧ hL (runO os h) 95 = lngO os (hL h 95)
  | [], h, _ => ⟨rfl, rfl, rfl, rfl⟩
  | (tag, k, kd, v) :: os, h, hn => by
    match tag with
    | 0 =>
      obtain ⟨a, b, c, d⟩ := run_own os (sI h 95 k (iI v)) hn
      exact ⟨a, b, c.trans (by rw [hI_sI, u2_row]; rfl), d⟩
    | 1 =>
      obtain ⟨a, b, c, d⟩ := run_own os (sI h 95 k (iI v)) hn
      exact ⟨a, b, c.trans (by rw [hI_sI, u2_row]; rfl), d⟩
    | 2 =>
      obtain ⟨a, b, c, d⟩ := run_own os (sL h 95 k (lI v)) hn
      exact ⟨a, b, c, d.trans (by rw [hL_sL, u2_row]; rfl)⟩
    | t + 3 =>
      obtain ⟨a, b, c, d⟩ := run_own os (sP (hNew h (kd, v.toNat)) 95 k (some (hN h))) (by show 95 < hN h + 1; omega)
      obtain ⟨a', b', c', d', -⟩ := new_old (t := (kd, v.toNat)) hn
      refine ⟨a.trans a', b.trans ?_, c.trans (by rw [hI_sP, c']; rfl), d.trans (by rw [hL_sP, d']; rfl)⟩
      rw [hP_sP, u2_row, b']
      rfl
/-- the new cells -/
theorem run_new : ∀ (os : List OpC) (h : AH), 95 < hN h → ∀ i, i < (tysO os).length → hT (runO os h) (hN h + i) = (tysO os).getD i (9, 0) ∧ hI (runO os h) (hN h + i) = fun _ => 0
  | [], h, _, i, hi => absurd hi (Nat.not_lt_zero _)
  | (tag, k, kd, v) :: os, h, hn, i, hi => by
    match tag with
    | 0 => exact run_new os (sI h 95 k (iI v)) hn i hi
    | 1 => exact run_new os (sI h 95 k (iI v)) hn i hi
    | 2 => exact run_new os (sL h 95 k (lI v)) hn i hi
    | t + 3 =>
      have hi' : i < (tysO os).length + 1 := hi
      match i with
      | 0 =>
        obtain ⟨a, -, c, -⟩ := run_old os (sP (hNew h (kd, v.toNat)) 95 k (some (hN h))) (hN h) (by show hN h < hN h + 1; omega) (by omega)
        exact ⟨a.trans u1_eq, c.trans u1_eq⟩
      | i + 1 =>
        have := run_new os (sP (hNew h (kd, v.toNat)) 95 k (some (hN h))) (by show 95 < hN h + 1; omega) i (by omega)
        have e : hN (sP (hNew h (kd, v.toNat)) 95 k (some (hN h))) + i = hN h + (i + 1) := by
          show hN h + 1 + i = _
          omega
        rw [e] at this
        exact this
