/-! ===== the class begins: by the kernel ===== -/
def hE0 : AH := (0, fun _ => (9, 0), fun _ _ => 0, fun _ _ => 0, fun _ _ => none, fun _ => [])
/-- all that is asked of the class's cells at the start -/
def chk0 (h : AH) : Bool :=
  decide (hN h = 95) && (List.range 95).all (fun q => decide (hT h q = gTl.getD q (9, 0))) && gPl.all (fun x => decide (95 ≤ x.1) || decide (hP h x.1 x.2.1 = some x.2.2)) && decide (hP h 11 0 = some 12) && decide (hP h 0 6 = some 83) && decide (hP h 3 10 = some 8) && (List.range 20).all (fun k => decide (hP h 71 k = none)) &&
  [1, 15, 18, 21, 28, 29, 30, 31, 33, 34, 35, 37, 43, 44, 45, 46, 50, 51, 52, 53, 54, 55, 56, 80].all (fun q => decide (hR h q = [])) && decide (hR h 2 = List.replicate 6 (iI 0)) && decide (hR h 4 = mI (wrdL.map (pkv 32 96))) && decide (hR h 13 = mI nu0L) && decide ((hR h 23).length = 29) && decide ((hR h 94).length = 29) && decide (hR h 32 = List.replicate 256 (iI (-1))) &&
  [57, 58, 59].all (fun q => decide (hR h q = List.replicate 12 (iI 0))) && [72, 73, 74].all (fun q => decide (hR h q = List.replicate 64 (iI 0))) &&
  [10, 11, 12, 13, 14].all (fun k => decide (hI h 49 k = iI 0)) && decide (hI h 11 13 = iI 0) && decide (hI h 11 14 = iI 0) && decide (hI h 11 15 = iI 1) && decide (hI h 0 7 = iI 0) && decide (hI h 0 8 = iI 0) && decide (hI h 0 9 = iI (-1))
def isC0 (r : Option (Option Value × AH)) : Bool := match r with
  | some (none, h) => chk0 h
  | _ => false
theorem c_init0 : isC0 (mX11_init [.ref 0] (hNew hE0 (0, 11))) = true := by decide +kernel
theorem c_init : ∃ h, mX11_init [.ref 0] (hNew hE0 (0, 11)) = some (none, h) ∧ chk0 h = true := by
  have := c_init0
  unfold isC0 at this
  split at this
  · rename_i h e
    exact ⟨h, e, this⟩
  · cases this
