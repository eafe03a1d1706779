/-! the abstract heap -/
abbrev AH : Type := Nat × (Nat → Nat × Nat) × (Nat → Nat → Int32) × (Nat → Nat → Int64) × (Nat → Nat → Option Nat) × (Nat → List Int32)
def hN (h : AH) : Nat := h.1
