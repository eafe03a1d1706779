/-! ===== the law: its loop (by mkfe.py) ===== -/
theorem dL_18 : decode code 18 = .ok (.iload_n 3, 1) := by decide +kernel
theorem dL_19 : decode code 19 = .ok (.aload_n 0, 1) := by decide +kernel
theorem dL_20 : decode code 20 = .ok (.arraylength, 1) := by decide +kernel
theorem dL_21 : decode code 21 = .ok (.bipush 6, 2) := by decide +kernel
theorem dL_23 : decode code 23 = .ok (.isub, 1) := by decide +kernel
theorem dL_24 : decode code 24 = .ok (.if_icmp .gt 1024, 3) := by decide +kernel
theorem dL_27 : decode code 27 = .ok (.aload_n 0, 1) := by decide +kernel
theorem dL_28 : decode code 28 = .ok (.iload_n 3, 1) := by decide +kernel
theorem dL_29 : decode code 29 = .ok (.iaload, 1) := by decide +kernel
theorem dL_30 : decode code 30 = .ok (.bipush 31, 2) := by decide +kernel
theorem dL_32 : decode code 32 = .ok (.iand, 1) := by decide +kernel
theorem dL_33 : decode code 33 = .ok (.tableswitch 1009 0 31 #[143, 206, 229, 242, 265, 288, 321, 364, 397, 430, 453, 486, 529, 562, 595, 628, 651, 674, 697, 710, 733, 766, 779, 802, 825, 848, 861, 894, 917, 930, 953, 986], 143) := by decide +kernel
theorem dL_1048 : decode code 1048 = .ok (.iconst 1, 1) := by decide +kernel
theorem dL_1049 : decode code 1049 = .ok (.ireturn, 1) := by decide +kernel
theorem and31 (x : Int32) : ∃ k : Nat, k < 32 ∧ x &&& iI 31 = iI (k : Int) := by
  have h1 : (x &&& iI 31).toInt = (x.toBitVec &&& 31#32).toInt := rfl
  have h2 : (x.toBitVec &&& 31#32).toNat ≤ 31 := by rw [BitVec.toNat_and]; exact Nat.and_le_right
  rw [BitVec.toInt_eq_toNat_of_lt (by omega)] at h1
  exact ⟨(x.toBitVec &&& 31#32).toNat, by omega, by rw [← h1]; exact (iI_toInt_self _).symm⟩
theorem law_switch {p : Program} {l : Launch} {e : Env} {s : State} {m : MethodId} {b L : Nat} {xs : Nat → Int32} {below : List Frame} {meth : Method} {c : Code} {G : GX} (Z : LWb p l e s m b L xs below meth c G) {t : Nat} (ht : t < 512) (hl : 6 * t + 5 < L) {h : AH} {κ : KP} (I : Inv t h) (hκ : Gdk h κ) {ls : Array Slot} (l0 : ls[0]? = some (.val (.ref b)))
    (next : ∀ (h2 : AH) (κ2 : KP), Inv (t + 1) h2 → Gdk h2 κ2 → ∀ ls' : Array Slot, ls'[0]? = some (.val (.ref b)) → AWl G (lwX p l e s m b below meth c) 4 18 ls' (envL (t + 1)) [] h2 κ2) (z : Int32) : AWl G (lwX p l e s m b below meth c) 4 33 ls (envL t) [.int (z &&& iI 31)] h κ := by
  obtain ⟨k, hk, ez⟩ := and31 z
  rw [ez]
  obtain ⟨hx, hb, -⟩ := id Z.1
  have hs : ∀ (off : Int) (tgt : Nat), #[143, 206, 229, 242, 265, 288, 321, 364, 397, 430, 453, 486, 529, 562, 595, 628, 651, 674, 697, 710, 733, 766, 779, 802, 825, 848, 861, 894, 917, 930, 953, 986][((iI (k : Int)).toInt - 0).toNat]? = some off → ((33 : Nat) : Int) + off = (tgt : Int) → AWl G (lwX p l e s m b below meth c) 4 tgt ls (envL t) [] h κ → AWl G (lwX p l e s m b below meth c) 4 33 ls (envL t) [.int (iI (k : Int))] h κ := fun off tgt ho hto A => by
    intro H locs ad bk cells slots hW hL hEn hV hS hn0 had hc hsl
    have e1 : (iI (k : Int)).toInt = (k : Int) := iI_toInt ⟨by omega, by omega⟩
    exact lv_tableIn hx hb dL_33 (by rw [e1]; omega) (by rw [e1]; omega) ho hto (A H locs ad bk cells slots hW hL hEn (fun w hw => absurd hw (List.not_mem_nil)) hS hn0 had hc hsl)
  rcases (by omega : k = 0 ∨ k = 1 ∨ k = 2 ∨ k = 3 ∨ k = 4 ∨ k = 5 ∨ k = 6 ∨ k = 7 ∨ k = 8 ∨ k = 9 ∨ k = 10 ∨ k = 11 ∨ k = 12 ∨ k = 13 ∨ k = 14 ∨ k = 15 ∨ k = 16 ∨ k = 17 ∨ k = 18 ∨ k = 19 ∨ k = 20 ∨ k = 21 ∨ k = 22 ∨ k = 23 ∨ k = 24 ∨ k = 25 ∨ k = 26 ∨ k = 27 ∨ k = 28 ∨ k = 29 ∨ k = 30 ∨ k = 31) with rfl | rfl | rfl | rfl | rfl | rfl | rfl | rfl | rfl | rfl | rfl | rfl | rfl | rfl | rfl | rfl | rfl | rfl | rfl | rfl | rfl | rfl | rfl | rfl | rfl | rfl | rfl | rfl | rfl | rfl | rfl | rfl
  · exact hs 143 176 (by decide +kernel) (by decide) (law_0 Z ht hl I hκ l0 next)
  · exact hs 206 239 (by decide +kernel) (by decide) (law_1 Z ht hl I hκ l0 next)
  · exact hs 229 262 (by decide +kernel) (by decide) (law_2 Z ht hl I hκ l0 next)
  · exact hs 242 275 (by decide +kernel) (by decide) (law_3 Z ht hl I hκ l0 next)
  · exact hs 265 298 (by decide +kernel) (by decide) (law_4 Z ht hl I hκ l0 next)
  · exact hs 288 321 (by decide +kernel) (by decide) (law_5 Z ht hl I hκ l0 next)
  · exact hs 321 354 (by decide +kernel) (by decide) (law_6 Z ht hl I hκ l0 next)
  · exact hs 364 397 (by decide +kernel) (by decide) (law_7 Z ht hl I hκ l0 next)
  · exact hs 397 430 (by decide +kernel) (by decide) (law_8 Z ht hl I hκ l0 next)
  · exact hs 430 463 (by decide +kernel) (by decide) (law_9 Z ht hl I hκ l0 next)
  · exact hs 453 486 (by decide +kernel) (by decide) (law_10 Z ht hl I hκ l0 next)
  · exact hs 486 519 (by decide +kernel) (by decide) (law_11 Z ht hl I hκ l0 next)
  · exact hs 529 562 (by decide +kernel) (by decide) (law_12 Z ht hl I hκ l0 next)
  · exact hs 562 595 (by decide +kernel) (by decide) (law_13 Z ht hl I hκ l0 next)
  · exact hs 595 628 (by decide +kernel) (by decide) (law_14 Z ht hl I hκ l0 next)
  · exact hs 628 661 (by decide +kernel) (by decide) (law_15 Z ht hl I hκ l0 next)
  · exact hs 651 684 (by decide +kernel) (by decide) (law_16 Z ht hl I hκ l0 next)
  · exact hs 674 707 (by decide +kernel) (by decide) (law_17 Z ht hl I hκ l0 next)
  · exact hs 697 730 (by decide +kernel) (by decide) (law_18 Z ht hl I hκ l0 next)
  · exact hs 710 743 (by decide +kernel) (by decide) (law_19 Z ht hl I hκ l0 next)
  · exact hs 733 766 (by decide +kernel) (by decide) (law_20 Z ht hl I hκ l0 next)
  · exact hs 766 799 (by decide +kernel) (by decide) (law_21 Z ht hl I hκ l0 next)
  · exact hs 779 812 (by decide +kernel) (by decide) (law_22 Z ht hl I hκ l0 next)
  · exact hs 802 835 (by decide +kernel) (by decide) (law_23 Z ht hl I hκ l0 next)
  · exact hs 825 858 (by decide +kernel) (by decide) (law_24 Z ht hl I hκ l0 next)
  · exact hs 848 881 (by decide +kernel) (by decide) (law_25 Z ht hl I hκ l0 next)
  · exact hs 861 894 (by decide +kernel) (by decide) (law_26 Z ht hl I hκ l0 next)
  · exact hs 894 927 (by decide +kernel) (by decide) (law_27 Z ht hl I hκ l0 next)
  · exact hs 917 950 (by decide +kernel) (by decide) (law_28 Z ht hl I hκ l0 next)
  · exact hs 930 963 (by decide +kernel) (by decide) (law_29 Z ht hl I hκ l0 next)
  · exact hs 953 986 (by decide +kernel) (by decide) (law_30 Z ht hl I hκ l0 next)
  · exact hs 986 1019 (by decide +kernel) (by decide) (law_31 Z ht hl I hκ l0 next)
theorem law_end {p : Program} {l : Launch} {e : Env} {s : State} {m : MethodId} {b L : Nat} {xs : Nat → Int32} {below : List Frame} {meth : Method} {c : Code} {G : GX} (Z : LWb p l e s m b L xs below meth c G) {t : Nat} {h : AH} {κ : KP} (I : Inv t h) (hκ : Gdk h κ) {H : Heap} {locs : List Loc} {ls : Array Slot} {cells slots : Nat} (hS : va_S (aBs G) s.heap H locs) (hc : cells + 0 = κ.2.1) (hsl : slots + 0 = κ.2.2.1) : W p l e room_1 s m #[Value.ref b] below meth c H locs cells slots (lw_Z below #[Value.ref b] s) (F0 m 1048 ls []) := by
  obtain ⟨hx, hb, hr, hml, hown, hts, hX, hbl, hlocks, hgv⟩ := id Z.1
  have hG := Z.2.2.1
  have rm := room_all t h κ I hκ
  have r1 : κ.2.1 ≤ 600000 := rm.1
  have r2 : κ.2.2.1 ≤ 7302250 := rm.2.1
  refine lv_iconst hx hb dL_1048 (v := 1) rfl ?_
  refine va_forget (fun q hq => by
    have := hS.2.2 q hq
    show s.heap.size ≤ q.base
    rw [← hG]
    exact this) ?_
  refine W.widen (k := 600000) (n := 7302250) (by omega) (by omega) ?_
  exact lw_ret hx hb hr hlocks dL_1049
theorem law_loop {p : Program} {l : Launch} {e : Env} {s : State} {m : MethodId} {b L : Nat} {xs : Nat → Int32} {below : List Frame} {meth : Method} {c : Code} {G : GX} (Z : LWb p l e s m b L xs below meth c G) : ∀ (k t : Nat), t + k = 512 → ∀ (h : AH) (κ : KP), Inv t h → Gdk h κ → ∀ ls : Array Slot, ls[0]? = some (.val (.ref b)) → AWl G (lwX p l e s m b below meth c) 4 18 ls (envL t) [] h κ := by
  obtain ⟨hx, hb, hr, hml, hown, hts, hX, hbl, hlocks, hgv⟩ := id Z.1
  have hG := Z.2.2.1
  have hL3 := Z.2.2.2
  have hbA : ¬ aBs G b := by
    show ¬ G.2.2 ≤ b
    rw [hG]; exact Nat.not_le.mpr hbl
  have eL : Int32.ofNat L - iI 6 = iI ((L : Int) - 6) := by
    have : Int32.ofNat L = iI (L : Int) := nI_iI L
    rw [this, iI_sub]
  intro k
  induction k with
  | zero =>
    intro t ht h κ I hκ ls l0
    intro H locs ad bk cells slots hW hL hEn hV hS hn0 had hc hsl
    refine lv_iload_n hx hb dL_18 rfl (hL.2.2 3 (.int (iI ((6 * t : Nat) : Int))) rfl) ?_
    refine lv_aload_n hx hb dL_19 rfl l0 ?_
    refine va_slen hx hb hX hbl hbA hS dL_20 ?_
    refine lv_bipush hx hb dL_21 (v := iI 6) (by decide) ?_
    refine lv_isub hx hb dL_23 ?_
    rw [eL]
    refine lv_icmp_gt hx hb (tgt := 1048) dL_24 (by decide) (fun _ => ?_) (fun z => absurd ((iI_lt ⟨by omega, by omega⟩ ⟨by omega, by omega⟩).mpr (by omega)) z)
    exact law_end Z I hκ hS hc hsl
  | succ k ih =>
    intro t ht h κ I hκ ls l0
    intro H locs ad bk cells slots hW hL hEn hV hS hn0 had hc hsl
    refine lv_iload_n hx hb dL_18 rfl (hL.2.2 3 (.int (iI ((6 * t : Nat) : Int))) rfl) ?_
    refine lv_aload_n hx hb dL_19 rfl l0 ?_
    refine va_slen hx hb hX hbl hbA hS dL_20 ?_
    refine lv_bipush hx hb dL_21 (v := iI 6) (by decide) ?_
    refine lv_isub hx hb dL_23 ?_
    rw [eL]
    refine lv_icmp_gt hx hb (tgt := 1048) dL_24 (by decide) (fun _ => law_end Z I hκ hS hc hsl) (fun z => ?_)
    have hl : 6 * t + 5 < L := by
      have : ¬ ((L : Int) - 6 < ((6 * t : Nat) : Int)) := fun y => z ((iI_lt ⟨by omega, by omega⟩ ⟨by omega, by omega⟩).mpr y)
      omega
    refine lv_aload_n hx hb dL_27 rfl l0 ?_
    refine lv_iload_n hx hb dL_28 rfl (hL.2.2 3 (.int (iI ((6 * t : Nat) : Int))) rfl) ?_
    have e2 : (iI ((6 * t : Nat) : Int)).toNatClampNeg = 6 * t := by
      rw [iI_nat2 ⟨by omega, by omega⟩, Int.toNat_natCast]
    refine va_sld hx hb hX hbl hbA hS (fun z => ?_) dL_29 ?_
    · rcases z with z | z
      · rw [iI_lt0 ⟨by omega, by omega⟩] at z
        omega
      · rw [e2] at z
        omega
    refine lv_bipush hx hb dL_30 (v := iI 31) (by decide) ?_
    refine lv_iand hx hb dL_32 ?_
    exact law_switch Z (by omega) hl I hκ l0 (fun h2 κ2 I2 g2 ls' l0' => ih (t + 1) (by omega) h2 κ2 I2 g2 ls' l0') (xs (iI ((6 * t : Nat) : Int)).toNatClampNeg) H locs ad bk cells slots hW hL hEn (fun w hw => by
      rcases List.mem_cons.mp hw with rfl | hw
      · exact fun q hq => by cases hq
      · exact absurd hw (List.not_mem_nil)) hS hn0 had hc hsl
