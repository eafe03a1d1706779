/-! ===== Row: at, put, add, copyFrom and its constructor, by hand ===== -/
theorem dX5_init_0 : decode cX5_init 0 = .ok (.aload_n 0, 1) := by decide +kernel
theorem dX5_init_1 : decode cX5_init 1 = .ok (.invokespecial 3, 3) := by decide +kernel
theorem dX5_init_4 : decode cX5_init 4 = .ok (.aload_n 0, 1) := by decide +kernel
theorem dX5_init_5 : decode cX5_init 5 = .ok (.bipush 16, 2) := by decide +kernel
theorem dX5_init_7 : decode cX5_init 7 = .ok (.newarray .int, 2) := by decide +kernel
theorem dX5_init_9 : decode cX5_init 9 = .ok (.putfield 9, 3) := by decide +kernel
theorem dX5_init_12 : decode cX5_init 12 = .ok (.aload_n 0, 1) := by decide +kernel
theorem dX5_init_13 : decode cX5_init 13 = .ok (.iconst 0, 1) := by decide +kernel
theorem dX5_init_14 : decode cX5_init 14 = .ok (.putfield 15, 3) := by decide +kernel
theorem dX5_init_17 : decode cX5_init 17 = .ok (.return_, 1) := by decide +kernel
theorem dX5_at_0 : decode cX5_at 0 = .ok (.iload_n 1, 1) := by decide +kernel
theorem dX5_at_1 : decode cX5_at 1 = .ok (.ifCond .lt 29, 3) := by decide +kernel
theorem dX5_at_4 : decode cX5_at 4 = .ok (.iload_n 1, 1) := by decide +kernel
theorem dX5_at_5 : decode cX5_at 5 = .ok (.aload_n 0, 1) := by decide +kernel
theorem dX5_at_6 : decode cX5_at 6 = .ok (.getfield 15, 3) := by decide +kernel
theorem dX5_at_9 : decode cX5_at 9 = .ok (.if_icmp .ge 21, 3) := by decide +kernel
theorem dX5_at_12 : decode cX5_at 12 = .ok (.iload_n 1, 1) := by decide +kernel
theorem dX5_at_13 : decode cX5_at 13 = .ok (.aload_n 0, 1) := by decide +kernel
theorem dX5_at_14 : decode cX5_at 14 = .ok (.getfield 9, 3) := by decide +kernel
theorem dX5_at_17 : decode cX5_at 17 = .ok (.arraylength, 1) := by decide +kernel
theorem dX5_at_18 : decode cX5_at 18 = .ok (.if_icmp .ge 12, 3) := by decide +kernel
theorem dX5_at_21 : decode cX5_at 21 = .ok (.aload_n 0, 1) := by decide +kernel
theorem dX5_at_22 : decode cX5_at 22 = .ok (.getfield 9, 3) := by decide +kernel
theorem dX5_at_25 : decode cX5_at 25 = .ok (.iload_n 1, 1) := by decide +kernel
theorem dX5_at_26 : decode cX5_at 26 = .ok (.iaload, 1) := by decide +kernel
theorem dX5_at_27 : decode cX5_at 27 = .ok (.goto 4, 3) := by decide +kernel
theorem dX5_at_30 : decode cX5_at 30 = .ok (.iconst (-1), 1) := by decide +kernel
theorem dX5_at_31 : decode cX5_at 31 = .ok (.ireturn, 1) := by decide +kernel
theorem dX5_put_0 : decode cX5_put 0 = .ok (.iload_n 1, 1) := by decide +kernel
theorem dX5_put_1 : decode cX5_put 1 = .ok (.ifCond .lt 27, 3) := by decide +kernel
theorem dX5_put_4 : decode cX5_put 4 = .ok (.iload_n 1, 1) := by decide +kernel
theorem dX5_put_5 : decode cX5_put 5 = .ok (.aload_n 0, 1) := by decide +kernel
theorem dX5_put_6 : decode cX5_put 6 = .ok (.getfield 15, 3) := by decide +kernel
theorem dX5_put_9 : decode cX5_put 9 = .ok (.if_icmp .ge 19, 3) := by decide +kernel
theorem dX5_put_12 : decode cX5_put 12 = .ok (.iload_n 1, 1) := by decide +kernel
theorem dX5_put_13 : decode cX5_put 13 = .ok (.aload_n 0, 1) := by decide +kernel
theorem dX5_put_14 : decode cX5_put 14 = .ok (.getfield 9, 3) := by decide +kernel
theorem dX5_put_17 : decode cX5_put 17 = .ok (.arraylength, 1) := by decide +kernel
theorem dX5_put_18 : decode cX5_put 18 = .ok (.if_icmp .ge 10, 3) := by decide +kernel
theorem dX5_put_21 : decode cX5_put 21 = .ok (.aload_n 0, 1) := by decide +kernel
theorem dX5_put_22 : decode cX5_put 22 = .ok (.getfield 9, 3) := by decide +kernel
theorem dX5_put_25 : decode cX5_put 25 = .ok (.iload_n 1, 1) := by decide +kernel
theorem dX5_put_26 : decode cX5_put 26 = .ok (.iload_n 2, 1) := by decide +kernel
theorem dX5_put_27 : decode cX5_put 27 = .ok (.iastore, 1) := by decide +kernel
theorem dX5_put_28 : decode cX5_put 28 = .ok (.return_, 1) := by decide +kernel
theorem dX5_add_0 : decode cX5_add 0 = .ok (.aload_n 0, 1) := by decide +kernel
theorem dX5_add_1 : decode cX5_add 1 = .ok (.getfield 15, 3) := by decide +kernel
theorem dX5_add_4 : decode cX5_add 4 = .ok (.aload_n 0, 1) := by decide +kernel
theorem dX5_add_5 : decode cX5_add 5 = .ok (.getfield 9, 3) := by decide +kernel
theorem dX5_add_8 : decode cX5_add 8 = .ok (.arraylength, 1) := by decide +kernel
theorem dX5_add_9 : decode cX5_add 9 = .ok (.if_icmp .lt 31, 3) := by decide +kernel
theorem dX5_add_12 : decode cX5_add 12 = .ok (.aload_n 0, 1) := by decide +kernel
theorem dX5_add_13 : decode cX5_add 13 = .ok (.getfield 15, 3) := by decide +kernel
theorem dX5_add_16 : decode cX5_add 16 = .ok (.sipush 16384, 3) := by decide +kernel
theorem dX5_add_19 : decode cX5_add 19 = .ok (.if_icmp .ge 21, 3) := by decide +kernel
theorem dX5_add_22 : decode cX5_add 22 = .ok (.aload_n 0, 1) := by decide +kernel
theorem dX5_add_23 : decode cX5_add 23 = .ok (.aload_n 0, 1) := by decide +kernel
theorem dX5_add_24 : decode cX5_add 24 = .ok (.getfield 9, 3) := by decide +kernel
theorem dX5_add_27 : decode cX5_add 27 = .ok (.iconst 2, 1) := by decide +kernel
theorem dX5_add_28 : decode cX5_add 28 = .ok (.aload_n 0, 1) := by decide +kernel
theorem dX5_add_29 : decode cX5_add 29 = .ok (.getfield 9, 3) := by decide +kernel
theorem dX5_add_32 : decode cX5_add 32 = .ok (.arraylength, 1) := by decide +kernel
theorem dX5_add_33 : decode cX5_add 33 = .ok (.imul, 1) := by decide +kernel
theorem dX5_add_34 : decode cX5_add 34 = .ok (.invokestatic 19, 3) := by decide +kernel
theorem dX5_add_37 : decode cX5_add 37 = .ok (.putfield 9, 3) := by decide +kernel
theorem dX5_add_40 : decode cX5_add 40 = .ok (.aload_n 0, 1) := by decide +kernel
theorem dX5_add_41 : decode cX5_add 41 = .ok (.getfield 15, 3) := by decide +kernel
theorem dX5_add_44 : decode cX5_add 44 = .ok (.ifCond .lt 35, 3) := by decide +kernel
theorem dX5_add_47 : decode cX5_add 47 = .ok (.aload_n 0, 1) := by decide +kernel
theorem dX5_add_48 : decode cX5_add 48 = .ok (.getfield 15, 3) := by decide +kernel
theorem dX5_add_51 : decode cX5_add 51 = .ok (.aload_n 0, 1) := by decide +kernel
theorem dX5_add_52 : decode cX5_add 52 = .ok (.getfield 9, 3) := by decide +kernel
theorem dX5_add_55 : decode cX5_add 55 = .ok (.arraylength, 1) := by decide +kernel
theorem dX5_add_56 : decode cX5_add 56 = .ok (.if_icmp .ge 23, 3) := by decide +kernel
theorem dX5_add_59 : decode cX5_add 59 = .ok (.aload_n 0, 1) := by decide +kernel
theorem dX5_add_60 : decode cX5_add 60 = .ok (.getfield 9, 3) := by decide +kernel
theorem dX5_add_63 : decode cX5_add 63 = .ok (.aload_n 0, 1) := by decide +kernel
theorem dX5_add_64 : decode cX5_add 64 = .ok (.getfield 15, 3) := by decide +kernel
theorem dX5_add_67 : decode cX5_add 67 = .ok (.iload_n 1, 1) := by decide +kernel
theorem dX5_add_68 : decode cX5_add 68 = .ok (.iastore, 1) := by decide +kernel
theorem dX5_add_69 : decode cX5_add 69 = .ok (.aload_n 0, 1) := by decide +kernel
theorem dX5_add_70 : decode cX5_add 70 = .ok (.dup, 1) := by decide +kernel
theorem dX5_add_71 : decode cX5_add 71 = .ok (.getfield 15, 3) := by decide +kernel
theorem dX5_add_74 : decode cX5_add 74 = .ok (.iconst 1, 1) := by decide +kernel
theorem dX5_add_75 : decode cX5_add 75 = .ok (.iadd, 1) := by decide +kernel
theorem dX5_add_76 : decode cX5_add 76 = .ok (.putfield 15, 3) := by decide +kernel
theorem dX5_add_79 : decode cX5_add 79 = .ok (.return_, 1) := by decide +kernel
theorem dX5_copyFrom_0 : decode cX5_copyFrom 0 = .ok (.aload_n 0, 1) := by decide +kernel
theorem dX5_copyFrom_1 : decode cX5_copyFrom 1 = .ok (.getfield 9, 3) := by decide +kernel
theorem dX5_copyFrom_4 : decode cX5_copyFrom 4 = .ok (.arraylength, 1) := by decide +kernel
theorem dX5_copyFrom_5 : decode cX5_copyFrom 5 = .ok (.aload_n 1, 1) := by decide +kernel
theorem dX5_copyFrom_6 : decode cX5_copyFrom 6 = .ok (.getfield 15, 3) := by decide +kernel
theorem dX5_copyFrom_9 : decode cX5_copyFrom 9 = .ok (.if_icmp .ge 14, 3) := by decide +kernel
theorem dX5_copyFrom_12 : decode cX5_copyFrom 12 = .ok (.aload_n 0, 1) := by decide +kernel
theorem dX5_copyFrom_13 : decode cX5_copyFrom 13 = .ok (.aload_n 1, 1) := by decide +kernel
theorem dX5_copyFrom_14 : decode cX5_copyFrom 14 = .ok (.getfield 9, 3) := by decide +kernel
theorem dX5_copyFrom_17 : decode cX5_copyFrom 17 = .ok (.arraylength, 1) := by decide +kernel
theorem dX5_copyFrom_18 : decode cX5_copyFrom 18 = .ok (.newarray .int, 2) := by decide +kernel
theorem dX5_copyFrom_20 : decode cX5_copyFrom 20 = .ok (.putfield 9, 3) := by decide +kernel
theorem dX5_copyFrom_23 : decode cX5_copyFrom 23 = .ok (.aload_n 0, 1) := by decide +kernel
theorem dX5_copyFrom_24 : decode cX5_copyFrom 24 = .ok (.aload_n 1, 1) := by decide +kernel
theorem dX5_copyFrom_25 : decode cX5_copyFrom 25 = .ok (.getfield 15, 3) := by decide +kernel
theorem dX5_copyFrom_28 : decode cX5_copyFrom 28 = .ok (.aload_n 0, 1) := by decide +kernel
theorem dX5_copyFrom_29 : decode cX5_copyFrom 29 = .ok (.getfield 9, 3) := by decide +kernel
theorem dX5_copyFrom_32 : decode cX5_copyFrom 32 = .ok (.arraylength, 1) := by decide +kernel
theorem dX5_copyFrom_33 : decode cX5_copyFrom 33 = .ok (.invokestatic 36, 3) := by decide +kernel
theorem dX5_copyFrom_36 : decode cX5_copyFrom 36 = .ok (.putfield 15, 3) := by decide +kernel
theorem dX5_copyFrom_39 : decode cX5_copyFrom 39 = .ok (.aload_n 1, 1) := by decide +kernel
theorem dX5_copyFrom_40 : decode cX5_copyFrom 40 = .ok (.getfield 9, 3) := by decide +kernel
theorem dX5_copyFrom_43 : decode cX5_copyFrom 43 = .ok (.iconst 0, 1) := by decide +kernel
theorem dX5_copyFrom_44 : decode cX5_copyFrom 44 = .ok (.aload_n 0, 1) := by decide +kernel
theorem dX5_copyFrom_45 : decode cX5_copyFrom 45 = .ok (.getfield 9, 3) := by decide +kernel
theorem dX5_copyFrom_48 : decode cX5_copyFrom 48 = .ok (.iconst 0, 1) := by decide +kernel
theorem dX5_copyFrom_49 : decode cX5_copyFrom 49 = .ok (.aload_n 0, 1) := by decide +kernel
theorem dX5_copyFrom_50 : decode cX5_copyFrom 50 = .ok (.getfield 15, 3) := by decide +kernel
theorem dX5_copyFrom_53 : decode cX5_copyFrom 53 = .ok (.invokestatic 42, 3) := by decide +kernel
theorem dX5_copyFrom_56 : decode cX5_copyFrom 56 = .ok (.return_, 1) := by decide +kernel
theorem dJ7_copyOf_59c91_0 : decode cJ7_copyOf_59c91 0 = .ok (.iload_n 1, 1) := by decide +kernel
theorem dJ7_copyOf_59c91_1 : decode cJ7_copyOf_59c91 1 = .ok (.aload_n 0, 1) := by decide +kernel
theorem dJ7_copyOf_59c91_2 : decode cJ7_copyOf_59c91 2 = .ok (.arraylength, 1) := by decide +kernel
theorem dJ7_copyOf_59c91_3 : decode cJ7_copyOf_59c91 3 = .ok (.if_icmp .ne 11, 3) := by decide +kernel
theorem dJ7_copyOf_59c91_6 : decode cJ7_copyOf_59c91 6 = .ok (.aload_n 0, 1) := by decide +kernel
theorem dJ7_copyOf_59c91_7 : decode cJ7_copyOf_59c91 7 = .ok (.invokevirtual 316, 3) := by decide +kernel
theorem dJ7_copyOf_59c91_10 : decode cJ7_copyOf_59c91 10 = .ok (.checkcast 317, 3) := by decide +kernel
theorem dJ7_copyOf_59c91_13 : decode cJ7_copyOf_59c91 13 = .ok (.areturn, 1) := by decide +kernel
theorem dJ7_copyOf_59c91_14 : decode cJ7_copyOf_59c91 14 = .ok (.iload_n 1, 1) := by decide +kernel
theorem dJ7_copyOf_59c91_15 : decode cJ7_copyOf_59c91 15 = .ok (.newarray .int, 2) := by decide +kernel
theorem dJ7_copyOf_59c91_17 : decode cJ7_copyOf_59c91 17 = .ok (.astore_n 2, 1) := by decide +kernel
theorem dJ7_copyOf_59c91_18 : decode cJ7_copyOf_59c91 18 = .ok (.aload_n 0, 1) := by decide +kernel
theorem dJ7_copyOf_59c91_19 : decode cJ7_copyOf_59c91 19 = .ok (.iconst 0, 1) := by decide +kernel
theorem dJ7_copyOf_59c91_20 : decode cJ7_copyOf_59c91 20 = .ok (.aload_n 2, 1) := by decide +kernel
theorem dJ7_copyOf_59c91_21 : decode cJ7_copyOf_59c91 21 = .ok (.iconst 0, 1) := by decide +kernel
theorem dJ7_copyOf_59c91_22 : decode cJ7_copyOf_59c91 22 = .ok (.aload_n 0, 1) := by decide +kernel
theorem dJ7_copyOf_59c91_23 : decode cJ7_copyOf_59c91 23 = .ok (.arraylength, 1) := by decide +kernel
theorem dJ7_copyOf_59c91_24 : decode cJ7_copyOf_59c91 24 = .ok (.iload_n 1, 1) := by decide +kernel
theorem dJ7_copyOf_59c91_25 : decode cJ7_copyOf_59c91 25 = .ok (.invokestatic 304, 3) := by decide +kernel
theorem dJ7_copyOf_59c91_28 : decode cJ7_copyOf_59c91 28 = .ok (.invokestatic 150, 3) := by decide +kernel
theorem dJ7_copyOf_59c91_31 : decode cJ7_copyOf_59c91 31 = .ok (.aload_n 2, 1) := by decide +kernel
theorem dJ7_copyOf_59c91_32 : decode cJ7_copyOf_59c91 32 = .ok (.areturn, 1) := by decide +kernel
section RowRows
variable {M : MI} {G : GX} {X : CX} {h : AH} {q : Nat} {caps ad : Nat → Nat} {bk : Nat → Nat → Int32} {H : Heap} {locs : List Loc} {ls : Array Slot} {cells slots pc i : Nat} {st : List Value}
theorem r_size (hc : ClF 5) (w : Cond.fieldLink M.1 i (vwT 5 1).1 (vwT 5 1).2.1 (vwT 5 1).2.2.1 ∈ GW) (C : CCx M G X) (hW : Wd G h caps ad bk H) (ht : (hT h q).1 = 1) (d : decode M.2.1 pc = .ok (.getfield i, 3)) (kk : wX X H locs cells slots (F0 X.2.1.2.1 (pc + 3) ls (.int (nI (hR h q).length) :: st))) : wX X H locs cells slots (F0 X.2.1.2.1 pc ls (.ref (ad (2 * q)) :: st)) := by
  have hq := hW.lt (q := q) (by omega)
  obtain ⟨⟨ws, pos, hP, hD, h1, h2⟩, -⟩ := hW
  have e := h1 (2 * q) (lvk_main hq)
  rw [enn_main, ekk_row ht] at e
  exact va_get C.1 C.2.1 (Ts := GW) C.2.2.2.2.1 hc.2.1 C.2.2.2.1 C.2.2.2.2.2.1.1 hP (pos (2 * q)) e hc.1 1 (by decide) (C.2.2.2.2.1 _ w) (fun _ z => z) rfl d kk
theorem r_cells (hc : ClF 5) (w : Cond.fieldLink M.1 i (vwT 5 0).1 (vwT 5 0).2.1 (vwT 5 0).2.2.1 ∈ GW) (C : CCx M G X) (hW : Wd G h caps ad bk H) (ht : (hT h q).1 = 1) (d : decode M.2.1 pc = .ok (.getfield i, 3)) (kk : wX X H locs cells slots (F0 X.2.1.2.1 (pc + 3) ls (.ref (ad (2 * q + 1)) :: st))) : wX X H locs cells slots (F0 X.2.1.2.1 pc ls (.ref (ad (2 * q)) :: st)) := by
  have hq := hW.lt (q := q) (by omega)
  obtain ⟨⟨ws, pos, hP, hD, h1, h2⟩, -⟩ := hW
  have e := h1 (2 * q) (lvk_main hq)
  rw [enn_main, ekk_row ht] at e
  exact va_get C.1 C.2.1 (Ts := GW) C.2.2.2.2.1 hc.2.1 C.2.2.2.1 C.2.2.2.2.2.1.1 hP (pos (2 * q)) e hc.1 0 (by decide) (C.2.2.2.2.1 _ w) (fun _ z => z) rfl d kk
theorem r_alen (C : CCx M G X) (hW : Wd G h caps ad bk H) (ht : (hT h q).1 = 1) (d : decode M.2.1 pc = .ok (.arraylength, 1)) (kk : wX X H locs cells slots (F0 X.2.1.2.1 (pc + 1) ls (.int (nI (caps q)) :: st))) : wX X H locs cells slots (F0 X.2.1.2.1 pc ls (.ref (ad (2 * q + 1)) :: st)) := by
  have hq := hW.lt (q := q) (by omega)
  obtain ⟨⟨ws, pos, hP, hD, h1, h2⟩, -⟩ := hW
  have e := h1 (2 * q + 1) (lvk_arr hq ht)
  rw [enn_arr] at e
  exact va_alen C.1 C.2.1 C.2.2.2.2.2.1.1 hP (pos (2 * q + 1)) 0 e rfl rfl d kk
theorem r_ald (C : CCx M G X) (hW : Wd G h caps ad bk H) (ht : (hT h q).1 = 1) {j : Int32} (hj : ixOk j (caps q)) (d : decode M.2.1 pc = .ok (.iaload, 1)) (kk : wX X H locs cells slots (F0 X.2.1.2.1 (pc + 1) ls (.int (bk q j.toNatClampNeg) :: st))) : wX X H locs cells slots (F0 X.2.1.2.1 pc ls (.int j :: .ref (ad (2 * q + 1)) :: st)) := by
  have hq := hW.lt (q := q) (by omega)
  obtain ⟨⟨ws, pos, hP, hD, h1, h2⟩, -⟩ := hW
  have e := h1 (2 * q + 1) (lvk_arr hq ht)
  rw [enn_arr] at e
  exact va_iald C.1 C.2.1 C.2.2.2.2.2.1.1 hP (pos (2 * q + 1)) 0 e rfl hj.vp d kk
/-- a write into the ints of a Row: what the Row holds becomes xs, of the same length -/
theorem r_ast (C : CCx M G X) (hW : Wd G h caps ad bk H) (ht : (hT h q).1 = 1) {j x : Int32} (hj : ixOk j (caps q)) {xs : List Int32} (hl : xs.length = (hR h q).length) (hx : ∀ i, i < xs.length → upd (bk q) j.toNatClampNeg x i = xs.getD i 0) (hS : va_S (aBs G) X.2.1.1.heap H locs) (d : decode M.2.1 pc = .ok (.iastore, 1)) (kk : ∀ H1 locs1, Wd G (sR h q xs) caps ad (u1 bk q (upd (bk q) j.toNatClampNeg x)) H1 → va_S (aBs G) X.2.1.1.heap H1 locs1 → wX X H1 locs1 cells slots (F0 X.2.1.2.1 (pc + 1) ls st)) : wX X H locs cells slots (F0 X.2.1.2.1 pc ls (.int x :: .int j :: .ref (ad (2 * q + 1)) :: st)) := by
  have hq := hW.lt (q := q) (by omega)
  obtain ⟨⟨ws, pos, hP', hD, h1, h2⟩, b1, b2, b3⟩ := hW
  have e := h1 (2 * q + 1) (lvk_arr hq ht)
  rw [enn_arr] at e
  have eR : hR (sR h q xs) q = xs := u1_eq
  refine va_iast C.1 C.2.1 C.2.2.2.2.2.1.1 hP' hD hS (pos (2 * q + 1)) 0 e rfl hj.vp d fun H1 l1 pp dd ss => kk H1 l1 (Wd.upd h1 h2 (lvk_arr hq ht) pp dd rfl rfl ?_ (fun k hk hlk => ?_) b1 (fun q' hq' hr' => ?_) b3) ss
  · rw [enn_arr, u1_eq]
  · unfold enn
    by_cases h0 : k % 2 = 0
    · rw [if_pos h0, if_pos h0]
      congr 1
      by_cases eq : k / 2 = q
      · rw [eq, ekk_row (by exact ht), ekk_row ht, eR, hl]
      · exact ekk_ne rfl rfl rfl rfl (u1_ne eq)
    · rw [if_neg h0, if_neg h0]
      have eq : k / 2 ≠ q := by omega
      rw [u1_ne eq]
  · by_cases eq : q' = q
    · subst eq
      rw [eR, u1_eq, hl]
      exact ⟨(b2 q' hq' hr').1, (b2 q' hq' hr').2.1, fun i hi => hx i (by omega)⟩
    · have e1 : hR (sR h q xs) q' = hR h q' := u1_ne eq
      rw [e1, u1_ne eq]
      exact b2 q' hq' hr'
/-- a Row's length is set, what it holds being in its ints already -/
theorem r_put (hc : ClF 5) (w : Cond.fieldLink M.1 i (vwT 5 1).1 (vwT 5 1).2.1 (vwT 5 1).2.2.1 ∈ GW) (C : CCx M G X) (hW : Wd G h caps ad bk H) (ht : (hT h q).1 = 1) {xs : List Int32} {v : Int32} (hv : v = nI xs.length) (hl : xs.length ≤ caps q) (hx : ∀ i, i < xs.length → bk q i = xs.getD i 0) (hS : va_S (aBs G) X.2.1.1.heap H locs) (d : decode M.2.1 pc = .ok (.putfield i, 3)) (kk : ∀ H1 locs1, Wd G (sR h q xs) caps ad bk H1 → va_S (aBs G) X.2.1.1.heap H1 locs1 → wX X H1 locs1 cells slots (F0 X.2.1.2.1 (pc + 3) ls st)) : wX X H locs cells slots (F0 X.2.1.2.1 pc ls (.int v :: .ref (ad (2 * q)) :: st)) := by
  have hq := hW.lt (q := q) (by omega)
  obtain ⟨⟨ws, pos, hP', hD, p1, p2⟩, b1, b2, b3⟩ := hW
  have e := p1 (2 * q) (lvk_main hq)
  rw [enn_main, ekk_row ht] at e
  have eR : hR (sR h q xs) q = xs := u1_eq
  refine va_put C.1 C.2.1 (Ts := GW) C.2.2.2.2.1 hc.2.1 (vwY 5) hc.2.2.1 hc.2.2.2.1 C.2.2.2.1 C.2.2.2.2.2.1.1 hP' hD hS (pos (2 * q)) e hc.1 1 (by decide) (C.2.2.2.2.1 _ w) (fun _ z => z) rfl (hc.2.2.1 1 (by decide)) (v := .int v) rfl rfl (by simp) d fun H1 l1 pp dd ss => kk H1 l1 (Wd.upd p1 p2 (lvk_main hq) pp dd rfl rfl ?_ (fun k' hk' _ => enn_ne hk' oth_sR) b1 (fun q' hq' hr' => ?_) b3) ss
  · rw [enn_main, ekk_row (by exact ht), eR, ← hv]
    rfl
  · by_cases eq : q' = q
    · subst eq
      rw [eR]
      exact ⟨hl, (b2 q' hq' hr').2.1, hx⟩
    · have e1 : hR (sR h q xs) q' = hR h q' := u1_ne eq
      rw [e1]
      exact b2 q' hq' hr'
end RowRows
/-! at, put -/
def rowAt (xs : List Int32) (i : Int32) : Int32 := if ¬ i < 0 ∧ i.toNatClampNeg < xs.length then xs.getD i.toNatClampNeg 0 else -1
def rowPut (xs : List Int32) (i v : Int32) : List Int32 := if ¬ i < 0 ∧ i.toNatClampNeg < xs.length then xs.set i.toNatClampNeg v else xs
def atB : St := fun env h => match (env[0]? : Option Slot), (env[1]? : Option Slot) with
  | some (.val (.ref q)), some (.val (.int i)) => if (hT h q).1 = 1 then some (.inr (some (.int (rowAt (hR h q) i))), env, h) else none
  | _, _ => none
theorem row_bound {h : AH} {q : Nat} {G : GX} {caps ad : Nat → Nat} {bk : Nat → Nat → Int32} {H : Heap} (hW : Wd G h caps ad bk H) (ht : (hT h q).1 = 1) : (hR h q).length ≤ caps q ∧ caps q < 2 ^ 30 ∧ ∀ i, i < (hR h q).length → bk q i = (hR h q).getD i 0 := hW.2.2.1 q (hW.lt (by omega)) ht
theorem at_J {dep : Nat} (hc : ClF 5) (w0 : Cond.fieldLink RX5 9 (vwT 5 0).1 (vwT 5 0).2.1 (vwT 5 0).2.2.1 ∈ GW) (w1 : Cond.fieldLink RX5 15 (vwT 5 1).1 (vwT 5 1).2.1 (vwT 5 1).2.2.1 ∈ GW) : JS (RX5, cX5_at, 2, dep, false) 0 0 0 32 [] atB := by
  intro env h r env' h' e κ hκ
  unfold atB at e
  split at e
  · rename_i q i e0 e1
    split at e
    · rename_i ht
      cases e
      refine ⟨κ, hκ, kle_rf κ, fun G X C hE _ _ _ A => ?_⟩
      intro H locs ls ad bk cells slots hW hL hEn hV hS hn0 had hcc hsl
      obtain ⟨r1, r2, r3⟩ := row_bound hW ht
      have fin := A _ rfl 31 env dX5_at_31
      have ret : ∀ v : Int32, v = rowAt (hR h q) i → wX X H locs cells slots (F0 X.2.1.2.1 31 ls [.int v]) := fun v hv => by
        rw [hv]
        exact fin H locs ls ad bk cells slots hW hL hEn (fun w hw => by rw [List.mem_singleton.mp hw]; exact vok_int) hS hn0 had hcc hsl
      have out : ¬ (¬ i < 0 ∧ i.toNatClampNeg < (hR h q).length) → wX X H locs cells slots (F0 X.2.1.2.1 30 ls []) := fun ho => by
        refine lv_iconst (v := -1) C.1 C.2.1 dX5_at_30 rfl ?_
        exact ret _ (by rw [rowAt, if_neg ho])
      refine lv_iload_n C.1 C.2.1 dX5_at_0 rfl (hL.2.2 1 _ e1) ?_
      refine lv_if_lt (tgt := 30) C.1 C.2.1 dX5_at_1 (by decide) (fun c1 => out (fun z => z.1 c1)) (fun c1 => ?_)
      refine lv_iload_n C.1 C.2.1 dX5_at_4 rfl (hL.2.2 1 _ e1) ?_
      refine lv_aload_n C.1 C.2.1 dX5_at_5 rfl (hL.2.2 0 _ e0) ?_
      refine r_size hc w1 C hW ht dX5_at_6 ?_
      obtain ⟨j, hj, rfl⟩ := nI_of c1
      refine lv_icmp_ge (tgt := 30) C.1 C.2.1 dX5_at_9 (by decide) (fun c2 => out (fun z => ?_)) (fun c2 => ?_)
      · rw [nI_clamp hj] at z
        have := (nI_leI (by omega) hj).mp c2
        omega
      · have c3 : j < (hR h q).length := by
          rcases Nat.lt_or_ge j (hR h q).length with z | z
          · exact z
          · exact absurd ((nI_leI (by omega) hj).mpr z) c2
        refine lv_iload_n C.1 C.2.1 dX5_at_12 rfl (hL.2.2 1 _ e1) ?_
        refine lv_aload_n C.1 C.2.1 dX5_at_13 rfl (hL.2.2 0 _ e0) ?_
        refine r_cells hc w0 C hW ht dX5_at_14 ?_
        refine r_alen C hW ht dX5_at_17 ?_
        refine lv_icmp_ge (tgt := 30) C.1 C.2.1 dX5_at_18 (by decide) (fun c4 => ?_) (fun c4 => ?_)
        · have := (nI_leI (by omega) hj).mp c4
          omega
        · refine lv_aload_n C.1 C.2.1 dX5_at_21 rfl (hL.2.2 0 _ e0) ?_
          refine r_cells hc w0 C hW ht dX5_at_22 ?_
          refine lv_iload_n C.1 C.2.1 dX5_at_25 rfl (hL.2.2 1 _ e1) ?_
          refine r_ald C hW ht ⟨c1, by rw [nI_clamp hj]; omega⟩ dX5_at_26 ?_
          refine lv_goto (tgt := 31) C.1 C.2.1 dX5_at_27 (by decide) ?_
          exact ret _ (by rw [rowAt, if_pos ⟨c1, by rw [nI_clamp hj]; exact c3⟩, nI_clamp hj, r3 j c3])
    · cases e
  · cases e
def putB : St := fun env h => match (env[0]? : Option Slot), (env[1]? : Option Slot), (env[2]? : Option Slot) with
  | some (.val (.ref q)), some (.val (.int i)), some (.val (.int v)) => if (hT h q).1 = 1 then some (.inr none, env, sR h q (rowPut (hR h q) i v)) else none
  | _, _, _ => none
theorem put_J {dep : Nat} (hc : ClF 5) (w0 : Cond.fieldLink RX5 9 (vwT 5 0).1 (vwT 5 0).2.1 (vwT 5 0).2.2.1 ∈ GW) (w1 : Cond.fieldLink RX5 15 (vwT 5 1).1 (vwT 5 1).2.1 (vwT 5 1).2.2.1 ∈ GW) : JS (RX5, cX5_put, 3, dep, false) 0 0 0 29 [] putB := by
  intro env h r env' h' e κ hκ
  unfold putB at e
  split at e
  · rename_i q i v e0 e1 e2
    split at e
    · rename_i ht
      cases e
      refine ⟨κ, hκ.same rfl rfl, kle_rf κ, fun G X C hE _ _ _ A => ?_⟩
      intro H locs ls ad bk cells slots hW hL hEn hV hS hn0 had hcc hsl
      obtain ⟨r1, r2, r3⟩ := row_bound hW ht
      have fin := A _ rfl 28 env dX5_put_28
      have ret : ∀ H1 l1 bk1, Wd G (sR h q (rowPut (hR h q) i v)) κ.1 ad bk1 H1 → va_S (aBs G) X.2.1.1.heap H1 l1 → wX X H1 l1 cells slots (F0 X.2.1.2.1 28 ls []) := fun H1 l1 bk1 hw hs => fin H1 l1 ls ad bk1 cells slots hw hL hEn (fun w hw => by cases hw) hs hn0 had hcc hsl
      have out : ¬ (¬ i < 0 ∧ i.toNatClampNeg < (hR h q).length) → wX X H locs cells slots (F0 X.2.1.2.1 28 ls []) := fun ho => by
        refine ret H locs bk ?_ hS
        have e1 : sR h q (rowPut (hR h q) i v) = h := by
          rw [rowPut, if_neg ho]
          show (h.1, h.2.1, h.2.2.1, h.2.2.2.1, h.2.2.2.2.1, u1 h.2.2.2.2.2 q (h.2.2.2.2.2 q)) = h
          rw [show u1 h.2.2.2.2.2 q (h.2.2.2.2.2 q) = h.2.2.2.2.2 by funext a; by_cases z : a = q <;> simp [u1, z]]
        rw [e1]
        exact hW
      refine lv_iload_n C.1 C.2.1 dX5_put_0 rfl (hL.2.2 1 _ e1) ?_
      refine lv_if_lt (tgt := 28) C.1 C.2.1 dX5_put_1 (by decide) (fun c1 => out (fun z => z.1 c1)) (fun c1 => ?_)
      refine lv_iload_n C.1 C.2.1 dX5_put_4 rfl (hL.2.2 1 _ e1) ?_
      refine lv_aload_n C.1 C.2.1 dX5_put_5 rfl (hL.2.2 0 _ e0) ?_
      refine r_size hc w1 C hW ht dX5_put_6 ?_
      obtain ⟨j, hj, rfl⟩ := nI_of c1
      refine lv_icmp_ge (tgt := 28) C.1 C.2.1 dX5_put_9 (by decide) (fun c2 => out (fun z => ?_)) (fun c2 => ?_)
      · rw [nI_clamp hj] at z
        have := (nI_leI (by omega) hj).mp c2
        omega
      · have c3 : j < (hR h q).length := by
          rcases Nat.lt_or_ge j (hR h q).length with z | z
          · exact z
          · exact absurd ((nI_leI (by omega) hj).mpr z) c2
        refine lv_iload_n C.1 C.2.1 dX5_put_12 rfl (hL.2.2 1 _ e1) ?_
        refine lv_aload_n C.1 C.2.1 dX5_put_13 rfl (hL.2.2 0 _ e0) ?_
        refine r_cells hc w0 C hW ht dX5_put_14 ?_
        refine r_alen C hW ht dX5_put_17 ?_
        refine lv_icmp_ge (tgt := 28) C.1 C.2.1 dX5_put_18 (by decide) (fun c4 => ?_) (fun c4 => ?_)
        · have := (nI_leI (by omega) hj).mp c4
          omega
        · refine lv_aload_n C.1 C.2.1 dX5_put_21 rfl (hL.2.2 0 _ e0) ?_
          refine r_cells hc w0 C hW ht dX5_put_22 ?_
          refine lv_iload_n C.1 C.2.1 dX5_put_25 rfl (hL.2.2 1 _ e1) ?_
          refine lv_iload_n C.1 C.2.1 dX5_put_26 rfl (hL.2.2 2 _ e2) ?_
          have ep : rowPut (hR h q) (nI j) v = (hR h q).set j v := by rw [rowPut, if_pos ⟨c1, by rw [nI_clamp hj]; exact c3⟩, nI_clamp hj]
          refine r_ast (xs := (hR h q).set j v) C hW ht ⟨c1, by rw [nI_clamp hj]; omega⟩ (by simp) (fun a ha => ?_) hS dX5_put_27 (fun H1 l1 hw hs => ret H1 l1 _ (by rw [ep]; exact hw) hs)
          rw [nI_clamp hj, List.getD_eq_getElem?_getD, List.getElem?_set]
          rw [List.length_set] at ha
          by_cases ea : a = j
          · subst ea
            simp [upd, c3]
          · rw [if_neg (fun z => ea z.symm), ← List.getD_eq_getElem?_getD, ← r3 a ha]
            simp [upd, ea]
    · cases e
  · cases e
